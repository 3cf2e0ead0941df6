/-! 99zm.hashOf.lean.txt -/
theorem gw_1778 : (Jvm.Cond.methodLink "PatchStoreModel" (285 : Nat) ({ cls := "PatchStoreModel$Sha256", name := "update", desc := "([BII)V" } : Jvm.MethodName)) ∈ xg_1 := xg_s8 98 rfl rfl
theorem gw_1779 : (Jvm.Cond.sameMethod "PatchStoreModel$Sha256" "PatchStoreModel$Digest" "update" "([BII)V") ∈ xg_1 := xg_s8 99 rfl rfl
theorem gw_1781 : (Jvm.Cond.selects "PatchStoreModel$Sha256" ({ cls := "PatchStoreModel$Sha256", name := "update", desc := "([BII)V" } : Jvm.MethodName) ({ cls := "PatchStoreModel$Digest", name := "update", desc := "([BII)V" } : Jvm.MethodName)) ∈ xg_1 := xg_s8 101 rfl rfl
theorem gw_1782 : (Jvm.Cond.instanceMethod ({ cls := "PatchStoreModel$Digest", name := "update", desc := "([BII)V" } : Jvm.MethodName)) ∈ xg_1 := xg_s8 102 rfl rfl
theorem gw_1783 : (Jvm.Cond.code ({ cls := "PatchStoreModel$Digest", name := "update", desc := "([BII)V" } : Jvm.MethodName) prog_15_method_8_code (7 : Nat) (Option.none : Option Jvm.ClassFile.FieldType)) ∈ xg_1 := xg_s8 103 rfl rfl
theorem gw_1784 : (Jvm.Cond.methodLink "PatchStoreModel$Digest" (43 : Nat) ({ cls := "java/lang/Math", name := "min", desc := "(II)I" } : Jvm.MethodName)) ∈ xg_1 := xg_s8 104 rfl rfl
theorem gw_1785 : (Jvm.Cond.static ({ cls := "java/lang/Math", name := "min", desc := "(II)I" } : Jvm.MethodName)) ∈ xg_1 := xg_s8 105 rfl rfl
theorem gw_1786 : (Jvm.Cond.code ({ cls := "java/lang/Math", name := "min", desc := "(II)I" } : Jvm.MethodName) prog_27_method_69_code (2 : Nat) (Option.some Jvm.ClassFile.FieldType.int)) ∈ xg_1 := xg_s8 106 rfl rfl
theorem gw_1787 : (Jvm.Cond.methodLink "PatchStoreModel$Digest" (33 : Nat) ({ cls := "java/lang/System", name := "arraycopy", desc := "(Ljava/lang/Object;ILjava/lang/Object;II)V" } : Jvm.MethodName)) ∈ xg_1 := xg_s8 107 rfl rfl
def y_MD_update : MethodName := ⟨"PatchStoreModel$Digest", "update", "([BII)V"⟩
abbrev c_MD_update : Cond := (Jvm.Cond.code ({ cls := "PatchStoreModel$Digest", name := "update", desc := "([BII)V" } : Jvm.MethodName) prog_15_method_8_code (7 : Nat) (Option.none : Option Jvm.ClassFile.FieldType))
abbrev ws_MD_update : List Cond := c_MD_update :: xg_1
theorem d_MD_update_0 : decode prog_15_method_8_code 0 = .ok (.aload_n 0, 1) := by decide +kernel
theorem d_MD_update_1 : decode prog_15_method_8_code 1 = .ok (.dup, 1) := by decide +kernel
theorem d_MD_update_2 : decode prog_15_method_8_code 2 = .ok (.getfield 13, 3) := by decide +kernel
theorem d_MD_update_5 : decode prog_15_method_8_code 5 = .ok (.iload_n 3, 1) := by decide +kernel
theorem d_MD_update_6 : decode prog_15_method_8_code 6 = .ok (.i2l, 1) := by decide +kernel
theorem d_MD_update_7 : decode prog_15_method_8_code 7 = .ok (.ladd, 1) := by decide +kernel
theorem d_MD_update_8 : decode prog_15_method_8_code 8 = .ok (.putfield 13, 3) := by decide +kernel
theorem d_MD_update_11 : decode prog_15_method_8_code 11 = .ok (.iload_n 2, 1) := by decide +kernel
theorem d_MD_update_12 : decode prog_15_method_8_code 12 = .ok (.istore 4, 2) := by decide +kernel
theorem d_MD_update_14 : decode prog_15_method_8_code 14 = .ok (.iload_n 3, 1) := by decide +kernel
theorem d_MD_update_15 : decode prog_15_method_8_code 15 = .ok (.istore 5, 2) := by decide +kernel
theorem d_MD_update_17 : decode prog_15_method_8_code 17 = .ok (.iload 5, 2) := by decide +kernel
theorem d_MD_update_19 : decode prog_15_method_8_code 19 = .ok (.ifCond .le 78, 3) := by decide +kernel
theorem d_MD_update_22 : decode prog_15_method_8_code 22 = .ok (.iload 5, 2) := by decide +kernel
theorem d_MD_update_24 : decode prog_15_method_8_code 24 = .ok (.aload_n 0, 1) := by decide +kernel
theorem d_MD_update_25 : decode prog_15_method_8_code 25 = .ok (.getfield 23, 3) := by decide +kernel
theorem d_MD_update_28 : decode prog_15_method_8_code 28 = .ok (.aload_n 0, 1) := by decide +kernel
theorem d_MD_update_29 : decode prog_15_method_8_code 29 = .ok (.getfield 7, 3) := by decide +kernel
theorem d_MD_update_32 : decode prog_15_method_8_code 32 = .ok (.isub, 1) := by decide +kernel
theorem d_MD_update_33 : decode prog_15_method_8_code 33 = .ok (.invokestatic 43, 3) := by decide +kernel
theorem d_MD_update_36 : decode prog_15_method_8_code 36 = .ok (.istore 6, 2) := by decide +kernel
theorem d_MD_update_38 : decode prog_15_method_8_code 38 = .ok (.aload_n 1, 1) := by decide +kernel
theorem d_MD_update_39 : decode prog_15_method_8_code 39 = .ok (.iload 4, 2) := by decide +kernel
theorem d_MD_update_41 : decode prog_15_method_8_code 41 = .ok (.aload_n 0, 1) := by decide +kernel
theorem d_MD_update_42 : decode prog_15_method_8_code 42 = .ok (.getfield 26, 3) := by decide +kernel
theorem d_MD_update_45 : decode prog_15_method_8_code 45 = .ok (.aload_n 0, 1) := by decide +kernel
theorem d_MD_update_46 : decode prog_15_method_8_code 46 = .ok (.getfield 7, 3) := by decide +kernel
theorem d_MD_update_49 : decode prog_15_method_8_code 49 = .ok (.iload 6, 2) := by decide +kernel
theorem d_MD_update_51 : decode prog_15_method_8_code 51 = .ok (.invokestatic 33, 3) := by decide +kernel
theorem d_MD_update_54 : decode prog_15_method_8_code 54 = .ok (.aload_n 0, 1) := by decide +kernel
theorem d_MD_update_55 : decode prog_15_method_8_code 55 = .ok (.dup, 1) := by decide +kernel
theorem d_MD_update_56 : decode prog_15_method_8_code 56 = .ok (.getfield 7, 3) := by decide +kernel
theorem d_MD_update_59 : decode prog_15_method_8_code 59 = .ok (.iload 6, 2) := by decide +kernel
theorem d_MD_update_61 : decode prog_15_method_8_code 61 = .ok (.iadd, 1) := by decide +kernel
theorem d_MD_update_62 : decode prog_15_method_8_code 62 = .ok (.putfield 7, 3) := by decide +kernel
theorem d_MD_update_65 : decode prog_15_method_8_code 65 = .ok (.iload 4, 2) := by decide +kernel
theorem d_MD_update_67 : decode prog_15_method_8_code 67 = .ok (.iload 6, 2) := by decide +kernel
theorem d_MD_update_69 : decode prog_15_method_8_code 69 = .ok (.iadd, 1) := by decide +kernel
theorem d_MD_update_70 : decode prog_15_method_8_code 70 = .ok (.istore 4, 2) := by decide +kernel
theorem d_MD_update_72 : decode prog_15_method_8_code 72 = .ok (.iload 5, 2) := by decide +kernel
theorem d_MD_update_74 : decode prog_15_method_8_code 74 = .ok (.iload 6, 2) := by decide +kernel
theorem d_MD_update_76 : decode prog_15_method_8_code 76 = .ok (.isub, 1) := by decide +kernel
theorem d_MD_update_77 : decode prog_15_method_8_code 77 = .ok (.istore 5, 2) := by decide +kernel
theorem d_MD_update_79 : decode prog_15_method_8_code 79 = .ok (.aload_n 0, 1) := by decide +kernel
theorem d_MD_update_80 : decode prog_15_method_8_code 80 = .ok (.getfield 7, 3) := by decide +kernel
theorem d_MD_update_83 : decode prog_15_method_8_code 83 = .ok (.aload_n 0, 1) := by decide +kernel
theorem d_MD_update_84 : decode prog_15_method_8_code 84 = .ok (.getfield 23, 3) := by decide +kernel
theorem d_MD_update_87 : decode prog_15_method_8_code 87 = .ok (.if_icmp .ne 7, 3) := by decide +kernel
theorem d_MD_update_90 : decode prog_15_method_8_code 90 = .ok (.aload_n 0, 1) := by decide +kernel
theorem d_MD_update_91 : decode prog_15_method_8_code 91 = .ok (.invokevirtual 49, 3) := by decide +kernel
theorem d_MD_update_94 : decode prog_15_method_8_code 94 = .ok (.goto (-77), 3) := by decide +kernel
theorem d_MD_update_97 : decode prog_15_method_8_code 97 = .ok (.return_, 1) := by decide +kernel
def y_Md_hashOf : MethodName := ⟨"PatchStoreModel", "hashOf", "([BII[B)V"⟩
abbrev c_Md_hashOf : Cond := (Jvm.Cond.code ({ cls := "PatchStoreModel", name := "hashOf", desc := "([BII[B)V" } : Jvm.MethodName) prog_14_method_7_code (5 : Nat) (Option.none : Option Jvm.ClassFile.FieldType))
abbrev ws_Md_hashOf : List Cond := c_Md_hashOf :: xg_1
theorem d_Md_hashOf_0 : decode prog_14_method_7_code 0 = .ok (.aload_n 0, 1) := by decide +kernel
theorem d_Md_hashOf_1 : decode prog_14_method_7_code 1 = .ok (.getfield 131, 3) := by decide +kernel
theorem d_Md_hashOf_4 : decode prog_14_method_7_code 4 = .ok (.invokevirtual 282, 3) := by decide +kernel
theorem d_Md_hashOf_7 : decode prog_14_method_7_code 7 = .ok (.aload_n 0, 1) := by decide +kernel
theorem d_Md_hashOf_8 : decode prog_14_method_7_code 8 = .ok (.getfield 131, 3) := by decide +kernel
theorem d_Md_hashOf_11 : decode prog_14_method_7_code 11 = .ok (.aload_n 1, 1) := by decide +kernel
theorem d_Md_hashOf_12 : decode prog_14_method_7_code 12 = .ok (.iload_n 2, 1) := by decide +kernel
theorem d_Md_hashOf_13 : decode prog_14_method_7_code 13 = .ok (.iload_n 3, 1) := by decide +kernel
theorem d_Md_hashOf_14 : decode prog_14_method_7_code 14 = .ok (.invokevirtual 285, 3) := by decide +kernel
theorem d_Md_hashOf_17 : decode prog_14_method_7_code 17 = .ok (.aload_n 0, 1) := by decide +kernel
theorem d_Md_hashOf_18 : decode prog_14_method_7_code 18 = .ok (.getfield 131, 3) := by decide +kernel
theorem d_Md_hashOf_21 : decode prog_14_method_7_code 21 = .ok (.aload 4, 2) := by decide +kernel
theorem d_Md_hashOf_23 : decode prog_14_method_7_code 23 = .ok (.iconst 0, 1) := by decide +kernel
theorem d_Md_hashOf_24 : decode prog_14_method_7_code 24 = .ok (.invokevirtual 289, 3) := by decide +kernel
theorem d_Md_hashOf_27 : decode prog_14_method_7_code 27 = .ok (.return_, 1) := by decide +kernel
theorem sh_puts_add (g : Nat → Int32) (a m1 : Nat) (s9 : sh_S) : ∀ m2, sh_puts g a (m1 + m2) s9 = sh_puts g (a + m1) m2 (sh_puts g a m1 s9)
  | 0 => rfl
  | m2 + 1 => by
    show sh_put1 (g (a + (m1 + m2))) (sh_puts g a (m1 + m2) s9) = sh_put1 (g (a + m1 + m2)) (sh_puts g (a + m1) m2 (sh_puts g a m1 s9))
    rw [sh_puts_add g a m1 s9 m2, Nat.add_assoc]
theorem cpy_s (g b : Nat → Int32) (a F M : Nat) : upd (va_cpy g b a F M) (F + M) (g (a + M)) = va_cpy g b a F (M + 1) := by
  funext j
  by_cases e : j = F + M
  · subst e
    rw [upd_eq]
    unfold va_cpy
    rw [if_pos (by omega), Nat.add_sub_cancel_left]
  · rw [upd_ne _ e]
    unfold va_cpy
    by_cases h : F ≤ j ∧ j < F + M
    · rw [if_pos h, if_pos (by omega)]
    · rw [if_neg h, if_neg (by omega)]
theorem cpy_0 (g b : Nat → Int32) (a F : Nat) : va_cpy g b a F 0 = b := by
  funext j
  unfold va_cpy
  rw [if_neg (by omega)]
theorem sh_chunk {g b f : Nat → Int32} {a F : Nat} : ∀ M, F + M < 64 → sh_puts g a M (f, b, F) = (f, va_cpy g b a F M, F + M)
  | 0, _ => by rw [cpy_0]; rfl
  | M + 1, h => by
    show sh_put1 (g (a + M)) (sh_puts g a M (f, b, F)) = _
    rw [sh_chunk M (by omega)]
    unfold sh_put1
    rw [if_pos (show F + M + 1 < 64 by omega), ← cpy_s]
    rfl
theorem sh_full {g b f : Nat → Int32} {a F M : Nat} (hM : 0 < M) (h : F + M = 64) : sh_puts g a M (f, b, F) = (sh_comp f (va_cpy g b a F M), va_cpy g b a F M, 0) := by
  obtain ⟨m, rfl⟩ : ∃ m, M = m + 1 := ⟨M - 1, by omega⟩
  show sh_put1 (g (a + m)) (sh_puts g a m (f, b, F)) = _
  rw [sh_chunk m (by omega)]
  unfold sh_put1
  rw [if_neg (show ¬ F + m + 1 < 64 by omega), ← cpy_s]
set_option maxHeartbeats 4000000 in
set_option maxRecDepth 100000 in
/-- bytes are taken by the digest -/
theorem m_MD_update (l : Launch) (dC : Nat → ClassId) (dI : Nat → Nat → Nat) (cI cB cL cZ cR : ClassId) (h sm wd bl sc : Nat) (f0 w0 b0 : Nat → Int32) (Fz : Nat) (tl : Int64) (bk0 : Int32) (N a M : Nat) (g : Nat → Int32) (sz : Nat) (hFz : Fz < 64) (hN9 : N < 2147483648) (haM : a + M ≤ N) (gb : ∀ j, j < N → fits .byte (.int (g j)) = true) : Met l y_MD_update ws_MD_update ({ frames := 4, cells := 0, slots := 0, locals := 260 }) (xw_Px dC dI [(cI, .int), (cB, .byte), (cL, .long), (cZ, .boolean), (cR, .object "PatchStore$Repository")] [.ref h, .ref sc, .int (nI a), .int (nI M)] [(h, .inr (13, [.ref sm, .ref wd, .int 32, .int 64, .ref bl, .int (nI Fz), .long tl, .int bk0])), (sm, .inl (cI, 8, .inl f0)), (wd, .inl (cI, 64, .inl w0)), (bl, .inl (cB, 64, .inl b0)), (sc, .inl (cB, N, .inl g))] sz) (va_Qv (fun u : (Nat → Int32) × (Nat → Int32) × (Nat → Int32) × Nat × Int32 => sh_puts g a M (f0, b0, Fz) = (u.1, u.2.2.1, u.2.2.2.1) ∧ u.2.2.2.1 < 64) (fun u t => xw_B dC dI [(cI, .int), (cB, .byte), (cL, .long), (cZ, .boolean), (cR, .object "PatchStore$Repository")] (va_A [(h, .inr (13, [.ref sm, .ref wd, .int 32, .int 64, .ref bl, .int (nI Fz), .long tl, .int bk0])), (sm, .inl (cI, 8, .inl f0)), (wd, .inl (cI, 64, .inl w0)), (bl, .inl (cB, 64, .inl b0)), (sc, .inl (cB, N, .inl g))] sz) [(h, .inr (13, [.ref sm, .ref wd, .int 32, .int 64, .ref bl, .int (nI u.2.2.2.1), .long (tl + (nI M : Int32).toInt64), .int u.2.2.2.2])), (sm, .inl (cI, 8, .inl u.1)), (wd, .inl (cI, 64, .inl u.2.1)), (bl, .inl (cB, 64, .inl u.2.2.1)), (sc, .inl (cB, N, .inl g))] t) (va_A [(h, .inr (13, [.ref sm, .ref wd, .int 32, .int 64, .ref bl, .int (nI Fz), .long tl, .int bk0])), (sm, .inl (cI, 8, .inl f0)), (wd, .inl (cI, 64, .inl w0)), (bl, .inl (cB, 64, .inl b0)), (sc, .inl (cB, N, .inl g))] sz)) 0 0 (va_A [(h, .inr (13, [.ref sm, .ref wd, .int 32, .int 64, .ref bl, .int (nI Fz), .long tl, .int bk0])), (sm, .inl (cI, 8, .inl f0)), (wd, .inl (cI, 64, .inl w0)), (bl, .inl (cB, 64, .inl b0)), (sc, .inl (cB, N, .inl g))] sz) := by
  refine Met.ofW (cc := prog_15_method_8_code) (maxL := 7) (ret := none) (by decide) rfl ?_
  intro p e s m args below meth c s₁ B hml hv
  obtain ⟨rfl, hsz, hP, hK, hD0, hN, hTh⟩ := hv
  have hx := B.exec
  have hb := B.bytes
  have hr := B.returns
  have hts0 := atoms_spec (ws := ws_MD_update) B.pre
  have hts : ∀ w ∈ xg_1, w.before _ s = true := fun w h => hts0 w (List.mem_cons_of_mem _ h)
  have hown : s.vm.findClass "PatchStoreModel$Digest" = some m.cls := findClass_of_methodNamed B.named
  have hlocks := B.notSynchronized
  subst hsz
  have hD := hD0.self (sz := s.heap.size)
  generalize hAe : va_A [(h, .inr (13, [.ref sm, .ref wd, .int 32, .int 64, .ref bl, .int (nI Fz), .long tl, .int bk0])), (sm, .inl (cI, 8, .inl f0)), (wd, .inl (cI, 64, .inl w0)), (bl, .inl (cB, 64, .inl b0)), (sc, .inl (cB, N, .inl g))] s.heap.size = A at hD hTh ⊢
  have hA : ∀ q : Nat, s.heap.size ≤ q → A q := fun q h => by rw [← hAe]; exact Or.inr h
  have hS : va_S A s.heap s.heap [] := va_S.rf
  have hl := lv_entry ([.ref h, .ref sc, .int (nI a), .int (nI M)]) (n := 7) (Nat.le_of_ble_eq_true rfl)
  rw [lg_entry_eq]
  generalize (lg_sl ([.ref h, .ref sc, .int (nI a), .int (nI M)]) ++ List.replicate (7 - (lg_sl ([.ref h, .ref sc, .int (nI a), .int (nI M)])).length) Slot.unset).toArray = ls at hl ⊢
  have hl : lv_has ls 7 [(0, .ref h), (1, .ref sc), (2, .int (nI a)), (3, .int (nI M))] := hl
  generalize hQe : MQ _ _ _ _ _ _ _ = Q
  refine lv_aload_n hx hb d_MD_update_0 rfl (lv_at hl 0 rfl) ?_
  refine lv_dup hx hb d_MD_update_1 rfl ?_
  refine va_get (D := (dC, dI)) (ci := 13) (v := .long tl) (C := R_MS) (T := F_MS) (N := 8) hx hb hts i_MS hown hK hP 0 rfl rfl 6 (by decide) (hts _ gw_1396) (fun _ h9 => h9) rfl d_MD_update_2 ?_
  refine lv_iload_n hx hb d_MD_update_5 rfl (lv_at hl 3 rfl) ?_
  refine lv_i2l hx hb d_MD_update_6 rfl ?_
  refine lv_ladd hx hb d_MD_update_7 ?_
  refine lv_topl (fun x_1 ex_1 => ?_)
  obtain rfl : x_1 = tl + (nI M : Int32).toInt64 := by rw [ex_1]; first | done | (rfl)
  refine va_put (D := (dC, dI)) (ci := 13) (v := .long (tl + (nI M : Int32).toInt64)) (ty := .long) (C := R_MS) (T := F_MS) (N := 8) hx hb hts i_MS t_MS t_MS_ok n_MS hown hK hP hD hS 0 rfl rfl 6 (by decide) (hts _ gw_1396) (fun _ h9 => h9) rfl (by decide +kernel) rfl rfl (Nat.le_of_ble_eq_true rfl) d_MD_update_8 (fun H locs hP hD hS => ?_)
  have hP : va_P (dC, dI) classes [(h, .inr (13, [.ref sm, .ref wd, .int 32, .int 64, .ref bl, .int (nI Fz), .long (tl + (nI M : Int32).toInt64), .int bk0])), (sm, .inl (cI, 8, .inl f0)), (wd, .inl (cI, 64, .inl w0)), (bl, .inl (cB, 64, .inl b0)), (sc, .inl (cB, N, .inl g))] H := hP
  have hD : va_D A [(h, .inr (13, [.ref sm, .ref wd, .int 32, .int 64, .ref bl, .int (nI Fz), .long (tl + (nI M : Int32).toInt64), .int bk0])), (sm, .inl (cI, 8, .inl f0)), (wd, .inl (cI, 64, .inl w0)), (bl, .inl (cB, 64, .inl b0)), (sc, .inl (cB, N, .inl g))] := hD
  refine lv_iload_n hx hb d_MD_update_11 rfl (lv_at hl 2 rfl) ?_
  refine lv_istore (lv' := [(4, .int (nI a)), (0, .ref h), (1, .ref sc), (2, .int (nI a)), (3, .int (nI M))]) hx hb d_MD_update_12 hl (by decide) rfl (fun ls hl => ?_)
  refine lv_iload_n hx hb d_MD_update_14 rfl (lv_at hl 4 rfl) ?_
  refine lv_istore (lv' := [(5, .int (nI M)), (4, .int (nI a)), (0, .ref h), (1, .ref sc), (2, .int (nI a)), (3, .int (nI M))]) hx hb d_MD_update_15 hl (by decide) rfl (fun ls hl => ?_)
  have loop_17 : ∀ (n9 : Nat) (k : Nat) (f : Nat → Int32) (w : Nat → Int32) (b : Nat → Int32) (F : Nat) (bk : Int32) (H : Heap) (locs : List Loc) (ls : Array Slot), M - k < n9 → (k ≤ M) → (F < 64) → (sh_puts g a k (f0, b0, Fz) = (f, b, F)) → va_P (dC, dI) classes [(h, .inr (13, [.ref sm, .ref wd, .int 32, .int 64, .ref bl, .int (nI F), .long (tl + (nI M : Int32).toInt64), .int bk])), (sm, .inl (cI, 8, .inl f)), (wd, .inl (cI, 64, .inl w)), (bl, .inl (cB, 64, .inl b)), (sc, .inl (cB, N, .inl g))] H → va_D A [(h, .inr (13, [.ref sm, .ref wd, .int 32, .int 64, .ref bl, .int (nI F), .long (tl + (nI M : Int32).toInt64), .int bk])), (sm, .inl (cI, 8, .inl f)), (wd, .inl (cI, 64, .inl w)), (bl, .inl (cB, 64, .inl b)), (sc, .inl (cB, N, .inl g))] → va_S A s.heap H locs → lv_has ls 7 [(0, .ref h), (1, .ref sc), (4, .int (nI (a + k))), (5, .int (nI (M - k)))] → W p l e (headSpec ws_MD_update ({ frames := 4, cells := 0, slots := 0, locals := 260 })).room s m ([.ref h, .ref sc, .int (nI a), .int (nI M)] : List Value).toArray below meth c H locs 0 0 Q (F0 m 17 ls []) := by
    intro n9
    induction n9 with
    | zero => intro k f w b F bk H locs ls hm; exact absurd hm (Nat.not_lt_zero _)
    | succ n9 ih_17 =>
      intro k f w b F bk H locs ls hm hk hF hs hP hD hS hl
      refine lv_iload hx hb d_MD_update_17 (lv_at hl 3 rfl) ?_
      refine lv_if_le (tgt := 97) hx hb d_MD_update_19 (by decide) (fun c_19 => ?_) (fun c_19 => ?_)
      · have n_19 : (M - k) ≤ 0 := (nI_leI (a := (M - k)) (b := 0) (by omega) (by omega)).mp c_19
        rw [← hQe]
        exact W.vret hx hb hr (fun t ht hW => ⟨⟨(f, w, b, F, bk), rfl, ⟨by rw [show M = k by omega]; exact hs, hF⟩, by rw [ht]; exact hP, va_K.moved hW.alike hK, hD⟩, hS.F ht⟩) hS.2.2 d_MD_update_97
      · have n_19 : 0 < (M - k) := Nat.lt_of_not_le (fun z => c_19 ((nI_leI (a := (M - k)) (b := 0) (by omega) (by omega)).mpr z))
        refine lv_iload hx hb d_MD_update_22 (lv_at hl 3 rfl) ?_
        refine lv_aload_n hx hb d_MD_update_24 rfl (lv_at hl 0 rfl) ?_
        refine va_get (D := (dC, dI)) (ci := 13) (v := .int 64) (C := R_MS) (T := F_MS) (N := 8) hx hb hts i_MS hown hK hP 0 rfl rfl 3 (by decide) (hts _ gw_1393) (fun _ h9 => h9) rfl d_MD_update_25 ?_
        refine lv_aload_n hx hb d_MD_update_28 rfl (lv_at hl 0 rfl) ?_
        refine va_get (D := (dC, dI)) (ci := 13) (v := .int (nI F)) (C := R_MS) (T := F_MS) (N := 8) hx hb hts i_MS hown hK hP 0 rfl rfl 5 (by decide) (hts _ gw_1395) (fun _ h9 => h9) rfl d_MD_update_29 ?_
        refine lv_isub hx hb d_MD_update_32 ?_
        refine lv_topi (fun x_2 ex_2 => ?_)
        obtain rfl : x_2 = nI (64 - F) := by rw [ex_2]; first | done | (exact nI_subN (a := 64) (b := F) (by omega))
        refine va_mmin hx hb (by rw [hml, hl.1]) hown (hts _ gw_1784) (hts _ gw_1785) (hts _ gw_24) (hts _ gw_1786) (Nat.le_of_ble_eq_true rfl) (Nat.le_of_ble_eq_true rfl) (Nat.le_of_ble_eq_true rfl) (Nat.le_of_ble_eq_true rfl) d_MD_update_33 ?_
        refine lv_topi (fun x_3 ex_3 => ?_)
        obtain rfl : x_3 = nI (min (M - k) (64 - F)) := by rw [ex_3]; first | done | (exact mn_eq (by omega) (by omega))
        generalize hcm : min (M - k) (64 - F) = cm
        have hcm1 : cm ≤ M - k ∧ cm ≤ 64 - F ∧ 0 < cm ∧ (cm = M - k ∨ cm = 64 - F) := by omega
        refine lv_istore (lv' := [(6, .int (nI cm)), (0, .ref h), (1, .ref sc), (4, .int (nI (a + k))), (5, .int (nI (M - k)))]) hx hb d_MD_update_36 hl (by decide) rfl (fun ls hl => ?_)
        refine lv_aload_n hx hb d_MD_update_38 rfl (lv_at hl 2 rfl) ?_
        refine lv_iload hx hb d_MD_update_39 (lv_at hl 3 rfl) ?_
        refine lv_aload_n hx hb d_MD_update_41 rfl (lv_at hl 1 rfl) ?_
        refine va_get (D := (dC, dI)) (ci := 13) (v := .ref bl) (C := R_MS) (T := F_MS) (N := 8) hx hb hts i_MS hown hK hP 0 rfl rfl 4 (by decide) (hts _ gw_1394) (fun _ h9 => h9) rfl d_MD_update_42 ?_
        refine lv_aload_n hx hb d_MD_update_45 rfl (lv_at hl 1 rfl) ?_
        refine va_get (D := (dC, dI)) (ci := 13) (v := .int (nI F)) (C := R_MS) (T := F_MS) (N := 8) hx hb hts i_MS hown hK hP 0 rfl rfl 5 (by decide) (hts _ gw_1395) (fun _ h9 => h9) rfl d_MD_update_46 ?_
        refine lv_iload hx hb d_MD_update_49 (lv_at hl 0 rfl) ?_
        have cp1 : (nI (a + k)).toNatClampNeg = (a + k) := nI_clamp (by omega)
        have cp2 : (nI F).toNatClampNeg = F := nI_clamp (by omega)
        have cp3 : (nI cm).toNatClampNeg = cm := nI_clamp (by omega)
        refine va_copyi hx hb (by rw [hml, hl.1]) hown (hts _ gw_1787) (hts _ gw_952) (hts _ gw_951) (hts _ gw_23) hK hP hD hS 4 3 1 1 rfl rfl rfl rfl rfl (nI_pos (by omega)) (nI_pos (by omega)) (nI_pos (by omega)) (by rw [cp1, cp3]; omega) (by rw [cp2, cp3]; omega) (by rw [cp1, cp3]; exact fun j z => gb _ (by omega)) (Nat.le_of_ble_eq_true rfl) (Nat.le_of_ble_eq_true rfl) d_MD_update_51 (fun H locs hP hD hS => ?_)
        rw [cp1, cp2, cp3] at hP hD
        have hP : va_P (dC, dI) classes [(h, .inr (13, [.ref sm, .ref wd, .int 32, .int 64, .ref bl, .int (nI F), .long (tl + (nI M : Int32).toInt64), .int bk])), (sm, .inl (cI, 8, .inl f)), (wd, .inl (cI, 64, .inl w)), (bl, .inl (cB, 64, .inl (va_cpy g b (a + k) F cm))), (sc, .inl (cB, N, .inl g))] H := hP
        have hD : va_D A [(h, .inr (13, [.ref sm, .ref wd, .int 32, .int 64, .ref bl, .int (nI F), .long (tl + (nI M : Int32).toInt64), .int bk])), (sm, .inl (cI, 8, .inl f)), (wd, .inl (cI, 64, .inl w)), (bl, .inl (cB, 64, .inl (va_cpy g b (a + k) F cm))), (sc, .inl (cB, N, .inl g))] := hD
        refine lv_aload_n hx hb d_MD_update_54 rfl (lv_at hl 1 rfl) ?_
        refine lv_dup hx hb d_MD_update_55 rfl ?_
        refine va_get (D := (dC, dI)) (ci := 13) (v := .int (nI F)) (C := R_MS) (T := F_MS) (N := 8) hx hb hts i_MS hown hK hP 0 rfl rfl 5 (by decide) (hts _ gw_1395) (fun _ h9 => h9) rfl d_MD_update_56 ?_
        refine lv_iload hx hb d_MD_update_59 (lv_at hl 0 rfl) ?_
        refine lv_iadd hx hb d_MD_update_61 ?_
        refine lv_topi (fun x_4 ex_4 => ?_)
        obtain rfl : x_4 = nI (F + cm) := by rw [ex_4]; first | done | (exact nI_add _ _)
        refine va_put (D := (dC, dI)) (ci := 13) (v := .int (nI (F + cm))) (ty := .int) (C := R_MS) (T := F_MS) (N := 8) hx hb hts i_MS t_MS t_MS_ok n_MS hown hK hP hD hS 0 rfl rfl 5 (by decide) (hts _ gw_1395) (fun _ h9 => h9) rfl (by decide +kernel) rfl rfl (Nat.le_of_ble_eq_true rfl) d_MD_update_62 (fun H locs hP hD hS => ?_)
        have hP : va_P (dC, dI) classes [(h, .inr (13, [.ref sm, .ref wd, .int 32, .int 64, .ref bl, .int (nI (F + cm)), .long (tl + (nI M : Int32).toInt64), .int bk])), (sm, .inl (cI, 8, .inl f)), (wd, .inl (cI, 64, .inl w)), (bl, .inl (cB, 64, .inl (va_cpy g b (a + k) F cm))), (sc, .inl (cB, N, .inl g))] H := hP
        have hD : va_D A [(h, .inr (13, [.ref sm, .ref wd, .int 32, .int 64, .ref bl, .int (nI (F + cm)), .long (tl + (nI M : Int32).toInt64), .int bk])), (sm, .inl (cI, 8, .inl f)), (wd, .inl (cI, 64, .inl w)), (bl, .inl (cB, 64, .inl (va_cpy g b (a + k) F cm))), (sc, .inl (cB, N, .inl g))] := hD
        refine lv_iload hx hb d_MD_update_65 (lv_at hl 3 rfl) ?_
        refine lv_iload hx hb d_MD_update_67 (lv_at hl 0 rfl) ?_
        refine lv_iadd hx hb d_MD_update_69 ?_
        refine lv_topi (fun x_5 ex_5 => ?_)
        obtain rfl : x_5 = nI (a + (k + cm)) := by rw [ex_5]; first | done | (exact (nI_add _ _).trans (congrArg nI (by omega)))
        refine lv_istore (lv' := [(4, .int (nI (a + (k + cm)))), (6, .int (nI cm)), (0, .ref h), (1, .ref sc), (5, .int (nI (M - k)))]) hx hb d_MD_update_70 hl (by decide) rfl (fun ls hl => ?_)
        refine lv_iload hx hb d_MD_update_72 (lv_at hl 4 rfl) ?_
        refine lv_iload hx hb d_MD_update_74 (lv_at hl 1 rfl) ?_
        refine lv_isub hx hb d_MD_update_76 ?_
        refine lv_topi (fun x_6 ex_6 => ?_)
        obtain rfl : x_6 = nI (M - (k + cm)) := by rw [ex_6]; first | done | (exact (nI_subN (by omega)).trans (congrArg nI (by omega)))
        refine lv_istore (lv' := [(5, .int (nI (M - (k + cm)))), (4, .int (nI (a + (k + cm)))), (6, .int (nI cm)), (0, .ref h), (1, .ref sc)]) hx hb d_MD_update_77 hl (by decide) rfl (fun ls hl => ?_)
        refine lv_aload_n hx hb d_MD_update_79 rfl (lv_at hl 3 rfl) ?_
        refine va_get (D := (dC, dI)) (ci := 13) (v := .int (nI (F + cm))) (C := R_MS) (T := F_MS) (N := 8) hx hb hts i_MS hown hK hP 0 rfl rfl 5 (by decide) (hts _ gw_1395) (fun _ h9 => h9) rfl d_MD_update_80 ?_
        refine lv_aload_n hx hb d_MD_update_83 rfl (lv_at hl 3 rfl) ?_
        refine va_get (D := (dC, dI)) (ci := 13) (v := .int 64) (C := R_MS) (T := F_MS) (N := 8) hx hb hts i_MS hown hK hP 0 rfl rfl 3 (by decide) (hts _ gw_1393) (fun _ h9 => h9) rfl d_MD_update_84 ?_
        refine lv_icmp_ne (tgt := 94) hx hb d_MD_update_87 (by decide) (fun c_87 => ?_) (fun c_87 => ?_)
        · have n_87 : ¬ (F + cm) = 64 := fun z => c_87 ((nI_eq (a := (F + cm)) (b := 64) (by omega) (by omega)).mpr z)
          refine lv_goto (tgt := 17) hx hb d_MD_update_94 (by decide) ?_
          exact ih_17 (k + cm) f w (va_cpy g b (a + k) F cm) (F + cm) bk _ _ _ (by omega) (by omega) (by omega) (by rw [sh_puts_add, hs]; exact sh_chunk cm (by omega)) hP hD hS (lv_sub hl [3, 4, 1, 0] rfl)
        · have n_87 : (F + cm) = 64 := (nI_eq (a := (F + cm)) (b := 64) (by omega) (by omega)).mp c_87
          refine lv_aload_n hx hb d_MD_update_90 rfl (lv_at hl 3 rfl) ?_
          have hPc := hP.sub (ws' := [(h, .inr (13, [.ref sm, .ref wd, .int 32, .int 64, .ref bl, .int (nI (F + cm)), .long (tl + (nI M : Int32).toInt64), .int bk])), (sm, .inl (cI, 8, .inl f)), (wd, .inl (cI, 64, .inl w)), (bl, .inl (cB, 64, .inl (va_cpy g b (a + k) F cm)))]) [0, 1, 2, 3] rfl
          have hDc := hD.sub (ws' := [(h, .inr (13, [.ref sm, .ref wd, .int 32, .int 64, .ref bl, .int (nI (F + cm)), .long (tl + (nI M : Int32).toInt64), .int bk])), (sm, .inl (cI, 8, .inl f)), (wd, .inl (cI, 64, .inl w)), (bl, .inl (cB, 64, .inl (va_cpy g b (a + k) F cm)))]) [0, 1, 2, 3] (by decide) rfl
          have hFc := va_free (wc := [(h, .inr (13, [.ref sm, .ref wd, .int 32, .int 64, .ref bl, .int (nI (F + cm)), .long (tl + (nI M : Int32).toInt64), .int bk])), (sm, .inl (cI, 8, .inl f)), (wd, .inl (cI, 64, .inl w)), (bl, .inl (cB, 64, .inl (va_cpy g b (a + k) F cm)))]) hD hS hA [0, 1, 2, 3] rfl
          refine va_callv (xp_runP (C := "PatchStoreModel$Sha256") (As := []) (rest := []) ⟨hx, hb, hml, hown, hts⟩ (m_MD_turn l dC dI cI cB cL cZ cR h sm wd bl f w (va_cpy g b (a + k) F cm) (nI (F + cm)) bk (tl + (nI M : Int32).toInt64) H.size ) (callB_of 0 hts (xg_in gw_1791) rfl rfl rfl (hts _ gw_14) (hts _ gw_1788) (by decide +kernel) ⟨Nat.le_of_ble_eq_true rfl, Nat.le_of_ble_eq_true rfl⟩) (hts _ gw_1790) (xp_sel (hts _ gw_1820) rfl (hN _ gn_1789) (hts _ gw_1790) (by decide)) (hN _ gn_1789) ⟨xw_blindx, va_recv hK hPc (ci := 13) (q0 := 0) rfl rfl, fun U hU hW => ⟨rfl, by rw [hU], by rw [hU]; exact hPc, va_K.moved hW.alike hK, hDc.weaken (fun _ _ _ _ => trivial), xg_N.warm hW hN, by rw [hU]; exact ((hTh.kept (fun a h1 h2 => hS.2.1 a h1 h2)).narrow hFc).moved hW.alike⟩⟩ rfl rfl hl.1 rfl (lv_room (Nat.le_of_ble_eq_true rfl)) d_MD_update_91 ⟨Nat.le_of_ble_eq_true rfl, Nat.le_of_ble_eq_true rfl⟩) hS (fun q _ h => hFc q h) hFc (fun w1 t H1 locs ht hvm hw hB hz1 hk1 hS => ?_)
          obtain ⟨hP1, hK1, hD1⟩ := hB
          rw [ht] at hP1
          obtain ⟨hP, hD⟩ := va_join (wr := [(sc, .inl (cB, N, .inl g))]) (w1 := [(h, .inr (13, [.ref sm, .ref wd, .int 32, .int 64, .ref bl, .int 0, .long (tl + (nI M : Int32).toInt64), .int (bk + 1)])), (sm, .inl (cI, 8, .inl (sh_comp f (va_cpy g b (a + k) F cm)))), (wd, .inl (cI, 64, .inl w1)), (bl, .inl (cB, 64, .inl (va_cpy g b (a + k) F cm)))]) hP hD [0, 1, 2, 3] [4] rfl rfl (by decide) (by decide) hk1 hFc hP1 hD1
          generalize H1 = H at hP hS ⊢
          have hP : va_P (dC, dI) classes [(sc, .inl (cB, N, .inl g)), (h, .inr (13, [.ref sm, .ref wd, .int 32, .int 64, .ref bl, .int 0, .long (tl + (nI M : Int32).toInt64), .int (bk + 1)])), (sm, .inl (cI, 8, .inl (sh_comp f (va_cpy g b (a + k) F cm)))), (wd, .inl (cI, 64, .inl w1)), (bl, .inl (cB, 64, .inl (va_cpy g b (a + k) F cm)))] H := hP
          have hD : va_D A [(sc, .inl (cB, N, .inl g)), (h, .inr (13, [.ref sm, .ref wd, .int 32, .int 64, .ref bl, .int 0, .long (tl + (nI M : Int32).toInt64), .int (bk + 1)])), (sm, .inl (cI, 8, .inl (sh_comp f (va_cpy g b (a + k) F cm)))), (wd, .inl (cI, 64, .inl w1)), (bl, .inl (cB, 64, .inl (va_cpy g b (a + k) F cm)))] := hD
          refine lv_goto (tgt := 17) hx hb d_MD_update_94 (by decide) ?_
          exact ih_17 (k + cm) (sh_comp f (va_cpy g b (a + k) F cm)) w1 (va_cpy g b (a + k) F cm) 0 (bk + 1) _ _ _ (by omega) (by omega) (by decide) (by rw [sh_puts_add, hs]; exact sh_full (by omega) n_87) (hP.sub [1, 2, 3, 4, 0] rfl) (hD.sub [1, 2, 3, 4, 0] (by decide) rfl) hS (lv_sub hl [3, 4, 1, 0] rfl)
  exact loop_17 _ 0 f0 w0 b0 Fz bk0 _ _ _ (Nat.lt_succ_self _) (Nat.zero_le _) (hFz) (rfl) hP hD hS (lv_sub hl [2, 3, 1, 0] rfl)
set_option maxHeartbeats 4000000 in
set_option maxRecDepth 100000 in
/-- the hash of bytes -/
theorem m_Md_hashOf (l : Launch) (dC : Nat → ClassId) (dI : Nat → Nat → Nat) (cI cB cL cZ cR : ClassId) (md dgO sm wd bl inA hM NI : Nat) (md_tape md_size md_thrown md_fault md_bytes md_used md_at md_length md_depAt md_firstChange md_hashes md_deps md_patches md_sort md_of md_fileOf md_one md_two md_nameAt md_nameSize md_overAt md_overCount md_lineAt md_lineCount md_changes md_overs md_overTotal md_lineChange md_textAt md_textSize md_lines md_fileChange md_fileLines md_files md_sets md_stamp md_in md_pos md_stop md_wrong md_dep md_named md_depCount md_own md_refFile md_full md_h md_counts md_marked md_namings md_namingCount md_listed md_listedCount md_listedStamp md_member md_text md_place md_dead md_edge md_way md_members md_textLines md_unsure md_workedRepository md_workedFile md_workedStamp md_stack md_before md_left md_made md_madeSize md_need md_needs md_newAt md_newSize md_news md_common md_keptAs md_isNew md_keptFrom md_stateOf md_rising fl0 tl0 : Value) (f0 w0 b0 gi h9 : Nat → Int32) (bk : Int32) (n : Nat) (sz : Nat) (hn : n ≤ NI) (hNI : NI ≤ 200000) (hgb : ∀ j, j < NI → fits .byte (.int (gi j)) = true) : Met l y_Md_hashOf ws_Md_hashOf ({ frames := 6, cells := 0, slots := 0, locals := 360 }) (xw_Px dC dI [(cI, .int), (cB, .byte), (cL, .long), (cZ, .boolean), (cR, .object "PatchStore$Repository")] [.ref md, .ref inA, .int 0, .int (nI n), .ref hM] [(md, .inr (12, [md_tape, md_size, md_thrown, md_fault, md_bytes, md_used, md_at, md_length, md_depAt, md_firstChange, md_hashes, md_deps, md_patches, md_sort, md_of, md_fileOf, md_one, md_two, md_nameAt, md_nameSize, md_overAt, md_overCount, md_lineAt, md_lineCount, md_changes, md_overs, md_overTotal, md_lineChange, md_textAt, md_textSize, md_lines, md_fileChange, md_fileLines, md_files, md_sets, md_stamp, .ref dgO, md_in, md_pos, md_stop, md_wrong, md_dep, md_named, md_depCount, md_own, md_refFile, md_full, md_h, md_counts, md_marked, md_namings, md_namingCount, md_listed, md_listedCount, md_listedStamp, md_member, md_text, md_place, md_dead, md_edge, md_way, md_members, md_textLines, md_unsure, md_workedRepository, md_workedFile, md_workedStamp, md_stack, md_before, md_left, md_made, md_madeSize, md_need, md_needs, md_newAt, md_newSize, md_news, md_common, md_keptAs, md_isNew, md_keptFrom, md_stateOf, md_rising])), (dgO, .inr (13, [.ref sm, .ref wd, .int 32, .int 64, .ref bl, fl0, tl0, .int bk])), (sm, .inl (cI, 8, .inl f0)), (wd, .inl (cI, 64, .inl w0)), (bl, .inl (cB, 64, .inl b0)), (inA, .inl (cB, NI, .inl gi)), (hM, .inl (cB, 32, .inl h9))] sz) (va_Qv (fun u : (Nat → Int32) × (Nat → Int32) × (Nat → Int32) × Nat × Int64 × Int32 => True) (fun u t => xw_B dC dI [(cI, .int), (cB, .byte), (cL, .long), (cZ, .boolean), (cR, .object "PatchStore$Repository")] (va_A [(md, .inr (12, [md_tape, md_size, md_thrown, md_fault, md_bytes, md_used, md_at, md_length, md_depAt, md_firstChange, md_hashes, md_deps, md_patches, md_sort, md_of, md_fileOf, md_one, md_two, md_nameAt, md_nameSize, md_overAt, md_overCount, md_lineAt, md_lineCount, md_changes, md_overs, md_overTotal, md_lineChange, md_textAt, md_textSize, md_lines, md_fileChange, md_fileLines, md_files, md_sets, md_stamp, .ref dgO, md_in, md_pos, md_stop, md_wrong, md_dep, md_named, md_depCount, md_own, md_refFile, md_full, md_h, md_counts, md_marked, md_namings, md_namingCount, md_listed, md_listedCount, md_listedStamp, md_member, md_text, md_place, md_dead, md_edge, md_way, md_members, md_textLines, md_unsure, md_workedRepository, md_workedFile, md_workedStamp, md_stack, md_before, md_left, md_made, md_madeSize, md_need, md_needs, md_newAt, md_newSize, md_news, md_common, md_keptAs, md_isNew, md_keptFrom, md_stateOf, md_rising])), (dgO, .inr (13, [.ref sm, .ref wd, .int 32, .int 64, .ref bl, fl0, tl0, .int bk])), (sm, .inl (cI, 8, .inl f0)), (wd, .inl (cI, 64, .inl w0)), (bl, .inl (cB, 64, .inl b0)), (inA, .inl (cB, NI, .inl gi)), (hM, .inl (cB, 32, .inl h9))] sz) [(md, .inr (12, [md_tape, md_size, md_thrown, md_fault, md_bytes, md_used, md_at, md_length, md_depAt, md_firstChange, md_hashes, md_deps, md_patches, md_sort, md_of, md_fileOf, md_one, md_two, md_nameAt, md_nameSize, md_overAt, md_overCount, md_lineAt, md_lineCount, md_changes, md_overs, md_overTotal, md_lineChange, md_textAt, md_textSize, md_lines, md_fileChange, md_fileLines, md_files, md_sets, md_stamp, .ref dgO, md_in, md_pos, md_stop, md_wrong, md_dep, md_named, md_depCount, md_own, md_refFile, md_full, md_h, md_counts, md_marked, md_namings, md_namingCount, md_listed, md_listedCount, md_listedStamp, md_member, md_text, md_place, md_dead, md_edge, md_way, md_members, md_textLines, md_unsure, md_workedRepository, md_workedFile, md_workedStamp, md_stack, md_before, md_left, md_made, md_madeSize, md_need, md_needs, md_newAt, md_newSize, md_news, md_common, md_keptAs, md_isNew, md_keptFrom, md_stateOf, md_rising])), (dgO, .inr (13, [.ref sm, .ref wd, .int 32, .int 64, .ref bl, .int (nI u.2.2.2.1), .long u.2.2.2.2.1, .int u.2.2.2.2.2])), (sm, .inl (cI, 8, .inl u.1)), (wd, .inl (cI, 64, .inl u.2.1)), (bl, .inl (cB, 64, .inl u.2.2.1)), (inA, .inl (cB, NI, .inl gi)), (hM, .inl (cB, 32, .inl (sh_out (dg gi 0 n) 0 32 h9)))] t) (va_A [(md, .inr (12, [md_tape, md_size, md_thrown, md_fault, md_bytes, md_used, md_at, md_length, md_depAt, md_firstChange, md_hashes, md_deps, md_patches, md_sort, md_of, md_fileOf, md_one, md_two, md_nameAt, md_nameSize, md_overAt, md_overCount, md_lineAt, md_lineCount, md_changes, md_overs, md_overTotal, md_lineChange, md_textAt, md_textSize, md_lines, md_fileChange, md_fileLines, md_files, md_sets, md_stamp, .ref dgO, md_in, md_pos, md_stop, md_wrong, md_dep, md_named, md_depCount, md_own, md_refFile, md_full, md_h, md_counts, md_marked, md_namings, md_namingCount, md_listed, md_listedCount, md_listedStamp, md_member, md_text, md_place, md_dead, md_edge, md_way, md_members, md_textLines, md_unsure, md_workedRepository, md_workedFile, md_workedStamp, md_stack, md_before, md_left, md_made, md_madeSize, md_need, md_needs, md_newAt, md_newSize, md_news, md_common, md_keptAs, md_isNew, md_keptFrom, md_stateOf, md_rising])), (dgO, .inr (13, [.ref sm, .ref wd, .int 32, .int 64, .ref bl, fl0, tl0, .int bk])), (sm, .inl (cI, 8, .inl f0)), (wd, .inl (cI, 64, .inl w0)), (bl, .inl (cB, 64, .inl b0)), (inA, .inl (cB, NI, .inl gi)), (hM, .inl (cB, 32, .inl h9))] sz)) 0 0 (va_A [(md, .inr (12, [md_tape, md_size, md_thrown, md_fault, md_bytes, md_used, md_at, md_length, md_depAt, md_firstChange, md_hashes, md_deps, md_patches, md_sort, md_of, md_fileOf, md_one, md_two, md_nameAt, md_nameSize, md_overAt, md_overCount, md_lineAt, md_lineCount, md_changes, md_overs, md_overTotal, md_lineChange, md_textAt, md_textSize, md_lines, md_fileChange, md_fileLines, md_files, md_sets, md_stamp, .ref dgO, md_in, md_pos, md_stop, md_wrong, md_dep, md_named, md_depCount, md_own, md_refFile, md_full, md_h, md_counts, md_marked, md_namings, md_namingCount, md_listed, md_listedCount, md_listedStamp, md_member, md_text, md_place, md_dead, md_edge, md_way, md_members, md_textLines, md_unsure, md_workedRepository, md_workedFile, md_workedStamp, md_stack, md_before, md_left, md_made, md_madeSize, md_need, md_needs, md_newAt, md_newSize, md_news, md_common, md_keptAs, md_isNew, md_keptFrom, md_stateOf, md_rising])), (dgO, .inr (13, [.ref sm, .ref wd, .int 32, .int 64, .ref bl, fl0, tl0, .int bk])), (sm, .inl (cI, 8, .inl f0)), (wd, .inl (cI, 64, .inl w0)), (bl, .inl (cB, 64, .inl b0)), (inA, .inl (cB, NI, .inl gi)), (hM, .inl (cB, 32, .inl h9))] sz) := by
  refine Met.ofW (cc := prog_14_method_7_code) (maxL := 5) (ret := none) (by decide) rfl ?_
  intro p e s m args below meth c s₁ B hml hv
  obtain ⟨rfl, hsz, hP, hK, hD0, hN, hTh⟩ := hv
  have hx := B.exec
  have hb := B.bytes
  have hr := B.returns
  have hts0 := atoms_spec (ws := ws_Md_hashOf) B.pre
  have hts : ∀ w ∈ xg_1, w.before _ s = true := fun w h => hts0 w (List.mem_cons_of_mem _ h)
  have hown : s.vm.findClass "PatchStoreModel" = some m.cls := findClass_of_methodNamed B.named
  have hlocks := B.notSynchronized
  subst hsz
  have hD := hD0.self (sz := s.heap.size)
  generalize hAe : va_A [(md, .inr (12, [md_tape, md_size, md_thrown, md_fault, md_bytes, md_used, md_at, md_length, md_depAt, md_firstChange, md_hashes, md_deps, md_patches, md_sort, md_of, md_fileOf, md_one, md_two, md_nameAt, md_nameSize, md_overAt, md_overCount, md_lineAt, md_lineCount, md_changes, md_overs, md_overTotal, md_lineChange, md_textAt, md_textSize, md_lines, md_fileChange, md_fileLines, md_files, md_sets, md_stamp, .ref dgO, md_in, md_pos, md_stop, md_wrong, md_dep, md_named, md_depCount, md_own, md_refFile, md_full, md_h, md_counts, md_marked, md_namings, md_namingCount, md_listed, md_listedCount, md_listedStamp, md_member, md_text, md_place, md_dead, md_edge, md_way, md_members, md_textLines, md_unsure, md_workedRepository, md_workedFile, md_workedStamp, md_stack, md_before, md_left, md_made, md_madeSize, md_need, md_needs, md_newAt, md_newSize, md_news, md_common, md_keptAs, md_isNew, md_keptFrom, md_stateOf, md_rising])), (dgO, .inr (13, [.ref sm, .ref wd, .int 32, .int 64, .ref bl, fl0, tl0, .int bk])), (sm, .inl (cI, 8, .inl f0)), (wd, .inl (cI, 64, .inl w0)), (bl, .inl (cB, 64, .inl b0)), (inA, .inl (cB, NI, .inl gi)), (hM, .inl (cB, 32, .inl h9))] s.heap.size = A at hD hTh ⊢
  have hA : ∀ q : Nat, s.heap.size ≤ q → A q := fun q h => by rw [← hAe]; exact Or.inr h
  have hS : va_S A s.heap s.heap [] := va_S.rf
  have hl := lv_entry ([.ref md, .ref inA, .int 0, .int (nI n), .ref hM]) (n := 5) (Nat.le_of_ble_eq_true rfl)
  rw [lg_entry_eq]
  generalize (lg_sl ([.ref md, .ref inA, .int 0, .int (nI n), .ref hM]) ++ List.replicate (5 - (lg_sl ([.ref md, .ref inA, .int 0, .int (nI n), .ref hM])).length) Slot.unset).toArray = ls at hl ⊢
  have hl : lv_has ls 5 [(0, .ref md), (1, .ref inA), (2, .int 0), (3, .int (nI n)), (4, .ref hM)] := hl
  refine lv_aload_n hx hb d_Md_hashOf_0 rfl (lv_at hl 0 rfl) ?_
  refine va_get (D := (dC, dI)) (ci := 12) (v := .ref dgO) (C := R_Md) (T := F_Md) (N := 83) hx hb hts i_Md hown hK hP 0 rfl rfl 36 (by decide) (hts _ gw_1454) (fun _ h9 => h9) rfl d_Md_hashOf_1 ?_
  have hPc := hP.sub (ws' := [(dgO, .inr (13, [.ref sm, .ref wd, .int 32, .int 64, .ref bl, fl0, tl0, .int bk])), (sm, .inl (cI, 8, .inl f0))]) [1, 2] rfl
  have hDc := hD.sub (ws' := [(dgO, .inr (13, [.ref sm, .ref wd, .int 32, .int 64, .ref bl, fl0, tl0, .int bk])), (sm, .inl (cI, 8, .inl f0))]) [1, 2] (by decide) rfl
  have hFc := va_free (wc := [(dgO, .inr (13, [.ref sm, .ref wd, .int 32, .int 64, .ref bl, fl0, tl0, .int bk])), (sm, .inl (cI, 8, .inl f0))]) hD hS hA [1, 2] rfl
  refine va_callv (va_runU (As := []) (rest := []) ⟨hx, hb, hml, hown, hts⟩ (m_MD_reset l dC dI cI cB cL cZ cR dgO sm (.ref wd) (.int 32) (.int 64) (.ref bl) (fl0) (tl0) (.int bk) f0 s.heap.size ) (va_cwU 0 hts (xg_U gw_1764 gw_1765 gw_1767 gw_1768 gw_14 gw_1769) rfl rfl rfl rfl (by decide +kernel) ⟨Nat.le_of_ble_eq_true rfl, Nat.le_of_ble_eq_true rfl⟩) ⟨xw_blindx, va_recv hK hPc (ci := 13) (q0 := 0) rfl rfl, fun U hU hW => ⟨rfl, by rw [hU], by rw [hU]; exact hPc, va_K.moved hW.alike hK, hDc.weaken (fun _ _ _ _ => trivial), xg_N.warm hW hN, by rw [hU]; exact ((hTh.kept (fun a h1 h2 => hS.2.1 a h1 h2)).narrow hFc).moved hW.alike⟩⟩ rfl rfl hl.1 rfl (lv_room (Nat.le_of_ble_eq_true rfl)) d_Md_hashOf_4 ⟨Nat.le_of_ble_eq_true rfl, Nat.le_of_ble_eq_true rfl⟩) hS (fun q _ h => hFc q h) hFc (fun f1 t H1 locs ht hvm hw hB hz1 hk1 hS => ?_)
  obtain ⟨hP1, hK1, hD1⟩ := hB
  rw [ht] at hP1
  obtain ⟨hP, hD⟩ := va_join (wr := [(md, .inr (12, [md_tape, md_size, md_thrown, md_fault, md_bytes, md_used, md_at, md_length, md_depAt, md_firstChange, md_hashes, md_deps, md_patches, md_sort, md_of, md_fileOf, md_one, md_two, md_nameAt, md_nameSize, md_overAt, md_overCount, md_lineAt, md_lineCount, md_changes, md_overs, md_overTotal, md_lineChange, md_textAt, md_textSize, md_lines, md_fileChange, md_fileLines, md_files, md_sets, md_stamp, .ref dgO, md_in, md_pos, md_stop, md_wrong, md_dep, md_named, md_depCount, md_own, md_refFile, md_full, md_h, md_counts, md_marked, md_namings, md_namingCount, md_listed, md_listedCount, md_listedStamp, md_member, md_text, md_place, md_dead, md_edge, md_way, md_members, md_textLines, md_unsure, md_workedRepository, md_workedFile, md_workedStamp, md_stack, md_before, md_left, md_made, md_madeSize, md_need, md_needs, md_newAt, md_newSize, md_news, md_common, md_keptAs, md_isNew, md_keptFrom, md_stateOf, md_rising])), (wd, .inl (cI, 64, .inl w0)), (bl, .inl (cB, 64, .inl b0)), (inA, .inl (cB, NI, .inl gi)), (hM, .inl (cB, 32, .inl h9))]) (w1 := [(dgO, .inr (13, [.ref sm, .ref wd, .int 32, .int 64, .ref bl, .int (nI 0), .long ((0 : Int32).toInt64), .int bk])), (sm, .inl (cI, 8, .inl f1))]) hP hD [1, 2] [0, 3, 4, 5, 6] rfl rfl (by decide) (by decide) hk1 hFc hP1 hD1
  generalize H1 = H at hP hS ⊢
  have hP : va_P (dC, dI) classes [(md, .inr (12, [md_tape, md_size, md_thrown, md_fault, md_bytes, md_used, md_at, md_length, md_depAt, md_firstChange, md_hashes, md_deps, md_patches, md_sort, md_of, md_fileOf, md_one, md_two, md_nameAt, md_nameSize, md_overAt, md_overCount, md_lineAt, md_lineCount, md_changes, md_overs, md_overTotal, md_lineChange, md_textAt, md_textSize, md_lines, md_fileChange, md_fileLines, md_files, md_sets, md_stamp, .ref dgO, md_in, md_pos, md_stop, md_wrong, md_dep, md_named, md_depCount, md_own, md_refFile, md_full, md_h, md_counts, md_marked, md_namings, md_namingCount, md_listed, md_listedCount, md_listedStamp, md_member, md_text, md_place, md_dead, md_edge, md_way, md_members, md_textLines, md_unsure, md_workedRepository, md_workedFile, md_workedStamp, md_stack, md_before, md_left, md_made, md_madeSize, md_need, md_needs, md_newAt, md_newSize, md_news, md_common, md_keptAs, md_isNew, md_keptFrom, md_stateOf, md_rising])), (wd, .inl (cI, 64, .inl w0)), (bl, .inl (cB, 64, .inl b0)), (inA, .inl (cB, NI, .inl gi)), (hM, .inl (cB, 32, .inl h9)), (dgO, .inr (13, [.ref sm, .ref wd, .int 32, .int 64, .ref bl, .int (nI 0), .long ((0 : Int32).toInt64), .int bk])), (sm, .inl (cI, 8, .inl f1))] H := hP
  have hD : va_D A [(md, .inr (12, [md_tape, md_size, md_thrown, md_fault, md_bytes, md_used, md_at, md_length, md_depAt, md_firstChange, md_hashes, md_deps, md_patches, md_sort, md_of, md_fileOf, md_one, md_two, md_nameAt, md_nameSize, md_overAt, md_overCount, md_lineAt, md_lineCount, md_changes, md_overs, md_overTotal, md_lineChange, md_textAt, md_textSize, md_lines, md_fileChange, md_fileLines, md_files, md_sets, md_stamp, .ref dgO, md_in, md_pos, md_stop, md_wrong, md_dep, md_named, md_depCount, md_own, md_refFile, md_full, md_h, md_counts, md_marked, md_namings, md_namingCount, md_listed, md_listedCount, md_listedStamp, md_member, md_text, md_place, md_dead, md_edge, md_way, md_members, md_textLines, md_unsure, md_workedRepository, md_workedFile, md_workedStamp, md_stack, md_before, md_left, md_made, md_madeSize, md_need, md_needs, md_newAt, md_newSize, md_news, md_common, md_keptAs, md_isNew, md_keptFrom, md_stateOf, md_rising])), (wd, .inl (cI, 64, .inl w0)), (bl, .inl (cB, 64, .inl b0)), (inA, .inl (cB, NI, .inl gi)), (hM, .inl (cB, 32, .inl h9)), (dgO, .inr (13, [.ref sm, .ref wd, .int 32, .int 64, .ref bl, .int (nI 0), .long ((0 : Int32).toInt64), .int bk])), (sm, .inl (cI, 8, .inl f1))] := hD
  have hf1 : ∀ j, j < 8 → f1 j = sh_START j := hw
  refine lv_aload_n hx hb d_Md_hashOf_7 rfl (lv_at hl 0 rfl) ?_
  refine va_get (D := (dC, dI)) (ci := 12) (v := .ref dgO) (C := R_Md) (T := F_Md) (N := 83) hx hb hts i_Md hown hK hP 0 rfl rfl 36 (by decide) (hts _ gw_1454) (fun _ h9 => h9) rfl d_Md_hashOf_8 ?_
  refine lv_aload_n hx hb d_Md_hashOf_11 rfl (lv_at hl 1 rfl) ?_
  refine lv_iload_n hx hb d_Md_hashOf_12 rfl (lv_at hl 2 rfl) ?_
  refine lv_iload_n hx hb d_Md_hashOf_13 rfl (lv_at hl 3 rfl) ?_
  have hPc := hP.sub (ws' := [(dgO, .inr (13, [.ref sm, .ref wd, .int 32, .int 64, .ref bl, .int (nI 0), .long ((0 : Int32).toInt64), .int bk])), (sm, .inl (cI, 8, .inl f1)), (wd, .inl (cI, 64, .inl w0)), (bl, .inl (cB, 64, .inl b0)), (inA, .inl (cB, NI, .inl gi))]) [5, 6, 1, 2, 3] rfl
  have hDc := hD.sub (ws' := [(dgO, .inr (13, [.ref sm, .ref wd, .int 32, .int 64, .ref bl, .int (nI 0), .long ((0 : Int32).toInt64), .int bk])), (sm, .inl (cI, 8, .inl f1)), (wd, .inl (cI, 64, .inl w0)), (bl, .inl (cB, 64, .inl b0)), (inA, .inl (cB, NI, .inl gi))]) [5, 6, 1, 2, 3] (by decide) rfl
  have hFc := va_free (wc := [(dgO, .inr (13, [.ref sm, .ref wd, .int 32, .int 64, .ref bl, .int (nI 0), .long ((0 : Int32).toInt64), .int bk])), (sm, .inl (cI, 8, .inl f1)), (wd, .inl (cI, 64, .inl w0)), (bl, .inl (cB, 64, .inl b0)), (inA, .inl (cB, NI, .inl gi))]) hD hS hA [5, 6, 1, 2, 3] rfl
  refine va_callv (va_runU (As := [.ref inA, .int 0, .int (nI n)]) (rest := []) ⟨hx, hb, hml, hown, hts⟩ (m_MD_update l dC dI cI cB cL cZ cR dgO sm wd bl inA f1 w0 b0 0 ((0 : Int32).toInt64) bk NI 0 n gi H.size (by decide) (by omega) (by omega) hgb) (va_cwU 3 hts (xg_U gw_1778 gw_1779 gw_1781 gw_1782 gw_14 gw_1783) rfl rfl rfl rfl (by decide +kernel) ⟨Nat.le_of_ble_eq_true rfl, Nat.le_of_ble_eq_true rfl⟩) ⟨xw_blindx, va_recv hK hPc (ci := 13) (q0 := 0) rfl rfl, fun U hU hW => ⟨rfl, by rw [hU], by rw [hU]; exact hPc, va_K.moved hW.alike hK, hDc.weaken (fun _ _ _ _ => trivial), xg_N.warm hW hN, by rw [hU]; exact ((hTh.kept (fun a h1 h2 => hS.2.1 a h1 h2)).narrow hFc).moved hW.alike⟩⟩ rfl rfl hl.1 rfl (lv_room (Nat.le_of_ble_eq_true rfl)) d_Md_hashOf_14 ⟨Nat.le_of_ble_eq_true rfl, Nat.le_of_ble_eq_true rfl⟩) hS (fun q _ h => hFc q h) hFc (fun u t H1 locs ht hvm hw hB hz1 hk1 hS => ?_)
  obtain ⟨f2, w2, b2, F2, k2⟩ := u
  obtain ⟨hw1, hw2⟩ := hw
  dsimp only at hw1 hw2
  obtain ⟨hP1, hK1, hD1⟩ := hB
  rw [ht] at hP1
  obtain ⟨hP, hD⟩ := va_join (wr := [(md, .inr (12, [md_tape, md_size, md_thrown, md_fault, md_bytes, md_used, md_at, md_length, md_depAt, md_firstChange, md_hashes, md_deps, md_patches, md_sort, md_of, md_fileOf, md_one, md_two, md_nameAt, md_nameSize, md_overAt, md_overCount, md_lineAt, md_lineCount, md_changes, md_overs, md_overTotal, md_lineChange, md_textAt, md_textSize, md_lines, md_fileChange, md_fileLines, md_files, md_sets, md_stamp, .ref dgO, md_in, md_pos, md_stop, md_wrong, md_dep, md_named, md_depCount, md_own, md_refFile, md_full, md_h, md_counts, md_marked, md_namings, md_namingCount, md_listed, md_listedCount, md_listedStamp, md_member, md_text, md_place, md_dead, md_edge, md_way, md_members, md_textLines, md_unsure, md_workedRepository, md_workedFile, md_workedStamp, md_stack, md_before, md_left, md_made, md_madeSize, md_need, md_needs, md_newAt, md_newSize, md_news, md_common, md_keptAs, md_isNew, md_keptFrom, md_stateOf, md_rising])), (hM, .inl (cB, 32, .inl h9))]) (w1 := [(dgO, .inr (13, [.ref sm, .ref wd, .int 32, .int 64, .ref bl, .int (nI F2), .long ((0 : Int32).toInt64 + (nI n : Int32).toInt64), .int k2])), (sm, .inl (cI, 8, .inl f2)), (wd, .inl (cI, 64, .inl w2)), (bl, .inl (cB, 64, .inl b2)), (inA, .inl (cB, NI, .inl gi))]) hP hD [5, 6, 1, 2, 3] [0, 4] rfl rfl (by decide) (by decide) hk1 hFc hP1 hD1
  generalize H1 = H at hP hS ⊢
  have hP : va_P (dC, dI) classes [(md, .inr (12, [md_tape, md_size, md_thrown, md_fault, md_bytes, md_used, md_at, md_length, md_depAt, md_firstChange, md_hashes, md_deps, md_patches, md_sort, md_of, md_fileOf, md_one, md_two, md_nameAt, md_nameSize, md_overAt, md_overCount, md_lineAt, md_lineCount, md_changes, md_overs, md_overTotal, md_lineChange, md_textAt, md_textSize, md_lines, md_fileChange, md_fileLines, md_files, md_sets, md_stamp, .ref dgO, md_in, md_pos, md_stop, md_wrong, md_dep, md_named, md_depCount, md_own, md_refFile, md_full, md_h, md_counts, md_marked, md_namings, md_namingCount, md_listed, md_listedCount, md_listedStamp, md_member, md_text, md_place, md_dead, md_edge, md_way, md_members, md_textLines, md_unsure, md_workedRepository, md_workedFile, md_workedStamp, md_stack, md_before, md_left, md_made, md_madeSize, md_need, md_needs, md_newAt, md_newSize, md_news, md_common, md_keptAs, md_isNew, md_keptFrom, md_stateOf, md_rising])), (hM, .inl (cB, 32, .inl h9)), (dgO, .inr (13, [.ref sm, .ref wd, .int 32, .int 64, .ref bl, .int (nI F2), .long ((0 : Int32).toInt64 + (nI n : Int32).toInt64), .int k2])), (sm, .inl (cI, 8, .inl f2)), (wd, .inl (cI, 64, .inl w2)), (bl, .inl (cB, 64, .inl b2)), (inA, .inl (cB, NI, .inl gi))] H := hP
  have hD : va_D A [(md, .inr (12, [md_tape, md_size, md_thrown, md_fault, md_bytes, md_used, md_at, md_length, md_depAt, md_firstChange, md_hashes, md_deps, md_patches, md_sort, md_of, md_fileOf, md_one, md_two, md_nameAt, md_nameSize, md_overAt, md_overCount, md_lineAt, md_lineCount, md_changes, md_overs, md_overTotal, md_lineChange, md_textAt, md_textSize, md_lines, md_fileChange, md_fileLines, md_files, md_sets, md_stamp, .ref dgO, md_in, md_pos, md_stop, md_wrong, md_dep, md_named, md_depCount, md_own, md_refFile, md_full, md_h, md_counts, md_marked, md_namings, md_namingCount, md_listed, md_listedCount, md_listedStamp, md_member, md_text, md_place, md_dead, md_edge, md_way, md_members, md_textLines, md_unsure, md_workedRepository, md_workedFile, md_workedStamp, md_stack, md_before, md_left, md_made, md_madeSize, md_need, md_needs, md_newAt, md_newSize, md_news, md_common, md_keptAs, md_isNew, md_keptFrom, md_stateOf, md_rising])), (hM, .inl (cB, 32, .inl h9)), (dgO, .inr (13, [.ref sm, .ref wd, .int 32, .int 64, .ref bl, .int (nI F2), .long ((0 : Int32).toInt64 + (nI n : Int32).toInt64), .int k2])), (sm, .inl (cI, 8, .inl f2)), (wd, .inl (cI, 64, .inl w2)), (bl, .inl (cB, 64, .inl b2)), (inA, .inl (cB, NI, .inl gi))] := hD
  rw [show (0 : Int32).toInt64 + (nI n : Int32).toInt64 = (nI n).toInt64 from (by rw [show (0 : Int32).toInt64 = 0 from by decide]; exact Int64.zero_add _)] at hP hD
  refine lv_aload_n hx hb d_Md_hashOf_17 rfl (lv_at hl 0 rfl) ?_
  refine va_get (D := (dC, dI)) (ci := 12) (v := .ref dgO) (C := R_Md) (T := F_Md) (N := 83) hx hb hts i_Md hown hK hP 0 rfl rfl 36 (by decide) (hts _ gw_1454) (fun _ h9 => h9) rfl d_Md_hashOf_18 ?_
  refine lv_aload hx hb d_Md_hashOf_21 (lv_at hl 4 rfl) ?_
  refine lv_iconst (v := 0) hx hb d_Md_hashOf_23 (by decide) ?_
  have hPc := hP.sub (ws' := [(dgO, .inr (13, [.ref sm, .ref wd, .int 32, .int 64, .ref bl, .int (nI F2), .long ((nI n).toInt64), .int k2])), (sm, .inl (cI, 8, .inl f2)), (wd, .inl (cI, 64, .inl w2)), (bl, .inl (cB, 64, .inl b2)), (hM, .inl (cB, 32, .inl h9))]) [2, 3, 4, 5, 1] rfl
  have hDc := hD.sub (ws' := [(dgO, .inr (13, [.ref sm, .ref wd, .int 32, .int 64, .ref bl, .int (nI F2), .long ((nI n).toInt64), .int k2])), (sm, .inl (cI, 8, .inl f2)), (wd, .inl (cI, 64, .inl w2)), (bl, .inl (cB, 64, .inl b2)), (hM, .inl (cB, 32, .inl h9))]) [2, 3, 4, 5, 1] (by decide) rfl
  have hFc := va_free (wc := [(dgO, .inr (13, [.ref sm, .ref wd, .int 32, .int 64, .ref bl, .int (nI F2), .long ((nI n).toInt64), .int k2])), (sm, .inl (cI, 8, .inl f2)), (wd, .inl (cI, 64, .inl w2)), (bl, .inl (cB, 64, .inl b2)), (hM, .inl (cB, 32, .inl h9))]) hD hS hA [2, 3, 4, 5, 1] rfl
  refine va_callv (va_runU (As := [.ref hM, .int 0]) (rest := []) ⟨hx, hb, hml, hown, hts⟩ (m_MD_finish l dC dI cI cB cL cZ cR dgO sm wd bl hM f2 w2 b2 F2 (nI n) k2 32 0 h9 H.size hw2 (by decide) (by decide)) (va_cwU 2 hts (xg_U gw_1810 gw_1811 gw_1813 gw_1814 gw_14 gw_1815) rfl rfl rfl rfl (by decide +kernel) ⟨Nat.le_of_ble_eq_true rfl, Nat.le_of_ble_eq_true rfl⟩) ⟨xw_blindx, va_recv hK hPc (ci := 13) (q0 := 0) rfl rfl, fun U hU hW => ⟨rfl, by rw [hU], by rw [hU]; exact hPc, va_K.moved hW.alike hK, hDc.weaken (fun _ _ _ _ => trivial), xg_N.warm hW hN, by rw [hU]; exact ((hTh.kept (fun a h1 h2 => hS.2.1 a h1 h2)).narrow hFc).moved hW.alike⟩⟩ rfl rfl hl.1 rfl (lv_room (Nat.le_of_ble_eq_true rfl)) d_Md_hashOf_24 ⟨Nat.le_of_ble_eq_true rfl, Nat.le_of_ble_eq_true rfl⟩) hS (fun q _ h => hFc q h) hFc (fun u t H1 locs ht hvm hw hB hz1 hk1 hS => ?_)
  obtain ⟨f3, w3, b3, F3, t3, k3, g3⟩ := u
  obtain ⟨hv1, hv2, hv3⟩ := hw
  dsimp only at hv1 hv2 hv3
  obtain rfl : g3 = sh_out (dg gi 0 n) 0 32 h9 := hv3.trans (sh_out_congr (dg_of hf1 hw1 hv1) _ _)
  obtain ⟨hP1, hK1, hD1⟩ := hB
  rw [ht] at hP1
  obtain ⟨hP, hD⟩ := va_join (wr := [(md, .inr (12, [md_tape, md_size, md_thrown, md_fault, md_bytes, md_used, md_at, md_length, md_depAt, md_firstChange, md_hashes, md_deps, md_patches, md_sort, md_of, md_fileOf, md_one, md_two, md_nameAt, md_nameSize, md_overAt, md_overCount, md_lineAt, md_lineCount, md_changes, md_overs, md_overTotal, md_lineChange, md_textAt, md_textSize, md_lines, md_fileChange, md_fileLines, md_files, md_sets, md_stamp, .ref dgO, md_in, md_pos, md_stop, md_wrong, md_dep, md_named, md_depCount, md_own, md_refFile, md_full, md_h, md_counts, md_marked, md_namings, md_namingCount, md_listed, md_listedCount, md_listedStamp, md_member, md_text, md_place, md_dead, md_edge, md_way, md_members, md_textLines, md_unsure, md_workedRepository, md_workedFile, md_workedStamp, md_stack, md_before, md_left, md_made, md_madeSize, md_need, md_needs, md_newAt, md_newSize, md_news, md_common, md_keptAs, md_isNew, md_keptFrom, md_stateOf, md_rising])), (inA, .inl (cB, NI, .inl gi))]) (w1 := [(dgO, .inr (13, [.ref sm, .ref wd, .int 32, .int 64, .ref bl, .int (nI F3), .long t3, .int k3])), (sm, .inl (cI, 8, .inl f3)), (wd, .inl (cI, 64, .inl w3)), (bl, .inl (cB, 64, .inl b3)), (hM, .inl (cB, 32, .inl (sh_out (dg gi 0 n) 0 32 h9)))]) hP hD [2, 3, 4, 5, 1] [0, 6] rfl rfl (by decide) (by decide) hk1 hFc hP1 hD1
  generalize H1 = H at hP hS ⊢
  have hP : va_P (dC, dI) classes [(md, .inr (12, [md_tape, md_size, md_thrown, md_fault, md_bytes, md_used, md_at, md_length, md_depAt, md_firstChange, md_hashes, md_deps, md_patches, md_sort, md_of, md_fileOf, md_one, md_two, md_nameAt, md_nameSize, md_overAt, md_overCount, md_lineAt, md_lineCount, md_changes, md_overs, md_overTotal, md_lineChange, md_textAt, md_textSize, md_lines, md_fileChange, md_fileLines, md_files, md_sets, md_stamp, .ref dgO, md_in, md_pos, md_stop, md_wrong, md_dep, md_named, md_depCount, md_own, md_refFile, md_full, md_h, md_counts, md_marked, md_namings, md_namingCount, md_listed, md_listedCount, md_listedStamp, md_member, md_text, md_place, md_dead, md_edge, md_way, md_members, md_textLines, md_unsure, md_workedRepository, md_workedFile, md_workedStamp, md_stack, md_before, md_left, md_made, md_madeSize, md_need, md_needs, md_newAt, md_newSize, md_news, md_common, md_keptAs, md_isNew, md_keptFrom, md_stateOf, md_rising])), (inA, .inl (cB, NI, .inl gi)), (dgO, .inr (13, [.ref sm, .ref wd, .int 32, .int 64, .ref bl, .int (nI F3), .long t3, .int k3])), (sm, .inl (cI, 8, .inl f3)), (wd, .inl (cI, 64, .inl w3)), (bl, .inl (cB, 64, .inl b3)), (hM, .inl (cB, 32, .inl (sh_out (dg gi 0 n) 0 32 h9)))] H := hP
  have hD : va_D A [(md, .inr (12, [md_tape, md_size, md_thrown, md_fault, md_bytes, md_used, md_at, md_length, md_depAt, md_firstChange, md_hashes, md_deps, md_patches, md_sort, md_of, md_fileOf, md_one, md_two, md_nameAt, md_nameSize, md_overAt, md_overCount, md_lineAt, md_lineCount, md_changes, md_overs, md_overTotal, md_lineChange, md_textAt, md_textSize, md_lines, md_fileChange, md_fileLines, md_files, md_sets, md_stamp, .ref dgO, md_in, md_pos, md_stop, md_wrong, md_dep, md_named, md_depCount, md_own, md_refFile, md_full, md_h, md_counts, md_marked, md_namings, md_namingCount, md_listed, md_listedCount, md_listedStamp, md_member, md_text, md_place, md_dead, md_edge, md_way, md_members, md_textLines, md_unsure, md_workedRepository, md_workedFile, md_workedStamp, md_stack, md_before, md_left, md_made, md_madeSize, md_need, md_needs, md_newAt, md_newSize, md_news, md_common, md_keptAs, md_isNew, md_keptFrom, md_stateOf, md_rising])), (inA, .inl (cB, NI, .inl gi)), (dgO, .inr (13, [.ref sm, .ref wd, .int 32, .int 64, .ref bl, .int (nI F3), .long t3, .int k3])), (sm, .inl (cI, 8, .inl f3)), (wd, .inl (cI, 64, .inl w3)), (bl, .inl (cB, 64, .inl b3)), (hM, .inl (cB, 32, .inl (sh_out (dg gi 0 n) 0 32 h9)))] := hD
  have hP := hP.sub (ws' := [(md, .inr (12, [md_tape, md_size, md_thrown, md_fault, md_bytes, md_used, md_at, md_length, md_depAt, md_firstChange, md_hashes, md_deps, md_patches, md_sort, md_of, md_fileOf, md_one, md_two, md_nameAt, md_nameSize, md_overAt, md_overCount, md_lineAt, md_lineCount, md_changes, md_overs, md_overTotal, md_lineChange, md_textAt, md_textSize, md_lines, md_fileChange, md_fileLines, md_files, md_sets, md_stamp, .ref dgO, md_in, md_pos, md_stop, md_wrong, md_dep, md_named, md_depCount, md_own, md_refFile, md_full, md_h, md_counts, md_marked, md_namings, md_namingCount, md_listed, md_listedCount, md_listedStamp, md_member, md_text, md_place, md_dead, md_edge, md_way, md_members, md_textLines, md_unsure, md_workedRepository, md_workedFile, md_workedStamp, md_stack, md_before, md_left, md_made, md_madeSize, md_need, md_needs, md_newAt, md_newSize, md_news, md_common, md_keptAs, md_isNew, md_keptFrom, md_stateOf, md_rising])), (dgO, .inr (13, [.ref sm, .ref wd, .int 32, .int 64, .ref bl, .int (nI F3), .long t3, .int k3])), (sm, .inl (cI, 8, .inl f3)), (wd, .inl (cI, 64, .inl w3)), (bl, .inl (cB, 64, .inl b3)), (inA, .inl (cB, NI, .inl gi)), (hM, .inl (cB, 32, .inl (sh_out (dg gi 0 n) 0 32 h9)))]) [0, 2, 3, 4, 5, 1, 6] rfl
  have hD := hD.sub (ws' := [(md, .inr (12, [md_tape, md_size, md_thrown, md_fault, md_bytes, md_used, md_at, md_length, md_depAt, md_firstChange, md_hashes, md_deps, md_patches, md_sort, md_of, md_fileOf, md_one, md_two, md_nameAt, md_nameSize, md_overAt, md_overCount, md_lineAt, md_lineCount, md_changes, md_overs, md_overTotal, md_lineChange, md_textAt, md_textSize, md_lines, md_fileChange, md_fileLines, md_files, md_sets, md_stamp, .ref dgO, md_in, md_pos, md_stop, md_wrong, md_dep, md_named, md_depCount, md_own, md_refFile, md_full, md_h, md_counts, md_marked, md_namings, md_namingCount, md_listed, md_listedCount, md_listedStamp, md_member, md_text, md_place, md_dead, md_edge, md_way, md_members, md_textLines, md_unsure, md_workedRepository, md_workedFile, md_workedStamp, md_stack, md_before, md_left, md_made, md_madeSize, md_need, md_needs, md_newAt, md_newSize, md_news, md_common, md_keptAs, md_isNew, md_keptFrom, md_stateOf, md_rising])), (dgO, .inr (13, [.ref sm, .ref wd, .int 32, .int 64, .ref bl, .int (nI F3), .long t3, .int k3])), (sm, .inl (cI, 8, .inl f3)), (wd, .inl (cI, 64, .inl w3)), (bl, .inl (cB, 64, .inl b3)), (inA, .inl (cB, NI, .inl gi)), (hM, .inl (cB, 32, .inl (sh_out (dg gi 0 n) 0 32 h9)))]) [0, 2, 3, 4, 5, 1, 6] (by decide) rfl
  exact W.vret hx hb hr (fun t ht hW => ⟨⟨(f3, w3, b3, F3, t3, k3), rfl, trivial, by rw [ht]; exact hP, va_K.moved hW.alike hK, hD⟩, hS.F ht⟩) hS.2.2 d_Md_hashOf_27
