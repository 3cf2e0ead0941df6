/-! 21.minit1.lean.txt -/
theorem gw_14 : (Jvm.Cond.initialized "PatchStoreModel$Digest") ∈ xg_1 := xg_s1 14 rfl rfl
theorem gw_1386 : (Jvm.Cond.methodLink "PatchStoreModel$Sha256" (1 : Nat) ({ cls := "PatchStoreModel$Digest", name := "<init>", desc := "(II)V" } : Jvm.MethodName)) ∈ xg_1 := xg_s6 186 rfl rfl
theorem gw_1387 : (Jvm.Cond.instanceMethod ({ cls := "PatchStoreModel$Digest", name := "<init>", desc := "(II)V" } : Jvm.MethodName)) ∈ xg_1 := xg_s6 187 rfl rfl
theorem gw_1388 : (Jvm.Cond.code ({ cls := "PatchStoreModel$Digest", name := "<init>", desc := "(II)V" } : Jvm.MethodName) prog_15_method_1_code (3 : Nat) (Option.none : Option Jvm.ClassFile.FieldType)) ∈ xg_1 := xg_s6 188 rfl rfl
theorem gw_1389 : (Jvm.Cond.methodLink "PatchStoreModel$Digest" (1 : Nat) ({ cls := "java/lang/Object", name := "<init>", desc := "()V" } : Jvm.MethodName)) ∈ xg_1 := xg_s6 189 rfl rfl
theorem gw_1390 : (Jvm.Cond.fieldLink "PatchStoreModel$Sha256" (7 : Nat) "PatchStoreModel$Sha256" "h" "[I") ∈ xg_1 := xg_s6 190 rfl rfl
theorem gw_1391 : (Jvm.Cond.fieldLink "PatchStoreModel$Sha256" (13 : Nat) "PatchStoreModel$Sha256" "w" "[I") ∈ xg_1 := xg_s6 191 rfl rfl
theorem gw_1392 : (Jvm.Cond.fieldLink "PatchStoreModel$Digest" (20 : Nat) "PatchStoreModel$Digest" "size" "I") ∈ xg_1 := xg_s6 192 rfl rfl
theorem gw_1393 : (Jvm.Cond.fieldLink "PatchStoreModel$Digest" (23 : Nat) "PatchStoreModel$Digest" "block" "I") ∈ xg_1 := xg_s6 193 rfl rfl
theorem gw_1394 : (Jvm.Cond.fieldLink "PatchStoreModel$Digest" (26 : Nat) "PatchStoreModel$Digest" "gathered" "[B") ∈ xg_1 := xg_s6 194 rfl rfl
theorem gw_1395 : (Jvm.Cond.fieldLink "PatchStoreModel$Digest" (7 : Nat) "PatchStoreModel$Digest" "filled" "I") ∈ xg_1 := xg_s6 195 rfl rfl
theorem gw_1396 : (Jvm.Cond.fieldLink "PatchStoreModel$Digest" (13 : Nat) "PatchStoreModel$Digest" "total" "J") ∈ xg_1 := xg_s6 196 rfl rfl
theorem gw_1397 : (Jvm.Cond.fieldLink "PatchStoreModel$Digest" (17 : Nat) "PatchStoreModel$Digest" "blocks" "I") ∈ xg_1 := xg_s6 197 rfl rfl
def y_MD_init : MethodName := ⟨"PatchStoreModel$Digest", "<init>", "(II)V"⟩
abbrev c_MD_init : Cond := (Jvm.Cond.code ({ cls := "PatchStoreModel$Digest", name := "<init>", desc := "(II)V" } : Jvm.MethodName) prog_15_method_1_code (3 : Nat) (Option.none : Option Jvm.ClassFile.FieldType))
abbrev ws_MD_init : List Cond := c_MD_init :: xg_1
theorem d_MD_init_0 : decode prog_15_method_1_code 0 = .ok (.aload_n 0, 1) := by decide +kernel
theorem d_MD_init_1 : decode prog_15_method_1_code 1 = .ok (.invokespecial 1, 3) := by decide +kernel
theorem d_MD_init_4 : decode prog_15_method_1_code 4 = .ok (.aload_n 0, 1) := by decide +kernel
theorem d_MD_init_5 : decode prog_15_method_1_code 5 = .ok (.iconst 0, 1) := by decide +kernel
theorem d_MD_init_6 : decode prog_15_method_1_code 6 = .ok (.putfield 7, 3) := by decide +kernel
theorem d_MD_init_9 : decode prog_15_method_1_code 9 = .ok (.aload_n 0, 1) := by decide +kernel
theorem d_MD_init_10 : decode prog_15_method_1_code 10 = .ok (.lconst 0, 1) := by decide +kernel
theorem d_MD_init_11 : decode prog_15_method_1_code 11 = .ok (.putfield 13, 3) := by decide +kernel
theorem d_MD_init_14 : decode prog_15_method_1_code 14 = .ok (.aload_n 0, 1) := by decide +kernel
theorem d_MD_init_15 : decode prog_15_method_1_code 15 = .ok (.iconst 0, 1) := by decide +kernel
theorem d_MD_init_16 : decode prog_15_method_1_code 16 = .ok (.putfield 17, 3) := by decide +kernel
theorem d_MD_init_19 : decode prog_15_method_1_code 19 = .ok (.aload_n 0, 1) := by decide +kernel
theorem d_MD_init_20 : decode prog_15_method_1_code 20 = .ok (.iload_n 1, 1) := by decide +kernel
theorem d_MD_init_21 : decode prog_15_method_1_code 21 = .ok (.putfield 20, 3) := by decide +kernel
theorem d_MD_init_24 : decode prog_15_method_1_code 24 = .ok (.aload_n 0, 1) := by decide +kernel
theorem d_MD_init_25 : decode prog_15_method_1_code 25 = .ok (.iload_n 2, 1) := by decide +kernel
theorem d_MD_init_26 : decode prog_15_method_1_code 26 = .ok (.putfield 23, 3) := by decide +kernel
theorem d_MD_init_29 : decode prog_15_method_1_code 29 = .ok (.aload_n 0, 1) := by decide +kernel
theorem d_MD_init_30 : decode prog_15_method_1_code 30 = .ok (.iload_n 2, 1) := by decide +kernel
theorem d_MD_init_31 : decode prog_15_method_1_code 31 = .ok (.newarray .byte, 2) := by decide +kernel
theorem d_MD_init_33 : decode prog_15_method_1_code 33 = .ok (.putfield 26, 3) := by decide +kernel
theorem d_MD_init_36 : decode prog_15_method_1_code 36 = .ok (.return_, 1) := by decide +kernel
def y_MS_init : MethodName := ⟨"PatchStoreModel$Sha256", "<init>", "()V"⟩
abbrev c_MS_init : Cond := (Jvm.Cond.code ({ cls := "PatchStoreModel$Sha256", name := "<init>", desc := "()V" } : Jvm.MethodName) prog_17_method_1_code (1 : Nat) (Option.none : Option Jvm.ClassFile.FieldType))
abbrev ws_MS_init : List Cond := c_MS_init :: xg_1
theorem d_MS_init_0 : decode prog_17_method_1_code 0 = .ok (.aload_n 0, 1) := by decide +kernel
theorem d_MS_init_1 : decode prog_17_method_1_code 1 = .ok (.bipush 32, 2) := by decide +kernel
theorem d_MS_init_3 : decode prog_17_method_1_code 3 = .ok (.bipush 64, 2) := by decide +kernel
theorem d_MS_init_5 : decode prog_17_method_1_code 5 = .ok (.invokespecial 1, 3) := by decide +kernel
theorem d_MS_init_8 : decode prog_17_method_1_code 8 = .ok (.aload_n 0, 1) := by decide +kernel
theorem d_MS_init_9 : decode prog_17_method_1_code 9 = .ok (.bipush 8, 2) := by decide +kernel
theorem d_MS_init_11 : decode prog_17_method_1_code 11 = .ok (.newarray .int, 2) := by decide +kernel
theorem d_MS_init_13 : decode prog_17_method_1_code 13 = .ok (.putfield 7, 3) := by decide +kernel
theorem d_MS_init_16 : decode prog_17_method_1_code 16 = .ok (.aload_n 0, 1) := by decide +kernel
theorem d_MS_init_17 : decode prog_17_method_1_code 17 = .ok (.bipush 64, 2) := by decide +kernel
theorem d_MS_init_19 : decode prog_17_method_1_code 19 = .ok (.newarray .int, 2) := by decide +kernel
theorem d_MS_init_21 : decode prog_17_method_1_code 21 = .ok (.putfield 13, 3) := by decide +kernel
theorem d_MS_init_24 : decode prog_17_method_1_code 24 = .ok (.return_, 1) := by decide +kernel
set_option maxHeartbeats 4000000 in
set_option maxRecDepth 100000 in
/-- Digest(32, 64) of a Sha256 -/
theorem m_MD_init (l : Launch) (dC : Nat → ClassId) (dI : Nat → Nat → Nat) (cI cB cL cZ cR : ClassId) (h : Nat) (sz : Nat) : Met l y_MD_init ws_MD_init ({ frames := 1, cells := 1, slots := 64, locals := 60 }) (xw_Px dC dI [(cI, .int), (cB, .byte), (cL, .long), (cZ, .boolean), (cR, .object "PatchStore$Repository")] [.ref h, .int 32, .int 64] [(h, .inr (13, [.null, .null, .int 0, .int 0, .null, .int 0, .long 0, .int 0]))] sz) (va_Qv (fun _ : Nat => True) (fun u t => xw_B dC dI [(cI, .int), (cB, .byte), (cL, .long), (cZ, .boolean), (cR, .object "PatchStore$Repository")] (va_A [(h, .inr (13, [.null, .null, .int 0, .int 0, .null, .int 0, .long 0, .int 0]))] sz) [(h, .inr (13, [.null, .null, .int 32, .int 64, .ref u, .int 0, .long 0, .int 0])), (u, .inl (cB, 64, .inl (fun _ => 0)))] t) (va_A [(h, .inr (13, [.null, .null, .int 0, .int 0, .null, .int 0, .long 0, .int 0]))] sz)) 1 64 (va_A [(h, .inr (13, [.null, .null, .int 0, .int 0, .null, .int 0, .long 0, .int 0]))] sz) := by
  refine Met.ofW (cc := prog_15_method_1_code) (maxL := 3) (ret := none) (by decide) rfl ?_
  intro p e s m args below meth c s₁ B hml hv
  obtain ⟨rfl, hsz, hP, hK, hD0, hN, hTh⟩ := hv
  have hx := B.exec
  have hb := B.bytes
  have hr := B.returns
  have hts0 := atoms_spec (ws := ws_MD_init) B.pre
  have hts : ∀ w ∈ xg_1, w.before _ s = true := fun w h => hts0 w (List.mem_cons_of_mem _ h)
  have hown : s.vm.findClass "PatchStoreModel$Digest" = some m.cls := findClass_of_methodNamed B.named
  have hlocks := B.notSynchronized
  have hin : meth.name = "<init>" := (name_of_methodNamed B.named B.method).1
  subst hsz
  have hD := hD0.self (sz := s.heap.size)
  generalize hAe : va_A [(h, .inr (13, [.null, .null, .int 0, .int 0, .null, .int 0, .long 0, .int 0]))] s.heap.size = A at hD hTh ⊢
  have hA : ∀ q : Nat, s.heap.size ≤ q → A q := fun q h => by rw [← hAe]; exact Or.inr h
  have hS : va_S A s.heap s.heap [] := va_S.rf
  have hl := lv_entry ([.ref h, .int 32, .int 64]) (n := 3) (Nat.le_of_ble_eq_true rfl)
  rw [lg_entry_eq]
  generalize (lg_sl ([.ref h, .int 32, .int 64]) ++ List.replicate (3 - (lg_sl ([.ref h, .int 32, .int 64])).length) Slot.unset).toArray = ls at hl ⊢
  have hl : lv_has ls 3 [(0, .ref h), (1, .int 32), (2, .int 64)] := hl
  refine lv_aload_n hx hb d_MD_init_0 rfl (lv_at hl 0 rfl) ?_
  refine W.objInit hx hb hown (hts _ gw_1389) (hts _ gw_43) (hts _ gw_44) rfl (by rw [hml]; exact hl.1) rfl d_MD_init_1 (Nat.le_of_ble_eq_true rfl) (Nat.le_of_ble_eq_true rfl) ?_
  refine W.eq (g2 := F0 m 4 ls []) rfl ?_
  refine lv_aload_n hx hb d_MD_init_4 rfl (lv_at hl 0 rfl) ?_
  refine lv_iconst (v := 0) hx hb d_MD_init_5 (by decide) ?_
  refine va_put (D := (dC, dI)) (ci := 13) (v := .int 0) (ty := .int) (C := R_MS) (T := F_MS) (N := 8) hx hb hts i_MS t_MS t_MS_ok n_MS hown hK hP hD hS 0 rfl rfl 5 (by decide) (hts _ gw_1395) (fun _ h9 => h9) rfl (by decide +kernel) rfl rfl (Nat.le_of_ble_eq_true rfl) d_MD_init_6 (fun H locs hP hD hS => ?_)
  have hP : va_P (dC, dI) classes [(h, .inr (13, [.null, .null, .int 0, .int 0, .null, .int 0, .long 0, .int 0]))] H := hP
  have hD : va_D A [(h, .inr (13, [.null, .null, .int 0, .int 0, .null, .int 0, .long 0, .int 0]))] := hD
  refine lv_aload_n hx hb d_MD_init_9 rfl (lv_at hl 0 rfl) ?_
  refine lv_lconst (v := 0) hx hb d_MD_init_10 (by decide) ?_
  refine va_put (D := (dC, dI)) (ci := 13) (v := .long 0) (ty := .long) (C := R_MS) (T := F_MS) (N := 8) hx hb hts i_MS t_MS t_MS_ok n_MS hown hK hP hD hS 0 rfl rfl 6 (by decide) (hts _ gw_1396) (fun _ h9 => h9) rfl (by decide +kernel) rfl rfl (Nat.le_of_ble_eq_true rfl) d_MD_init_11 (fun H locs hP hD hS => ?_)
  have hP : va_P (dC, dI) classes [(h, .inr (13, [.null, .null, .int 0, .int 0, .null, .int 0, .long 0, .int 0]))] H := hP
  have hD : va_D A [(h, .inr (13, [.null, .null, .int 0, .int 0, .null, .int 0, .long 0, .int 0]))] := hD
  refine lv_aload_n hx hb d_MD_init_14 rfl (lv_at hl 0 rfl) ?_
  refine lv_iconst (v := 0) hx hb d_MD_init_15 (by decide) ?_
  refine va_put (D := (dC, dI)) (ci := 13) (v := .int 0) (ty := .int) (C := R_MS) (T := F_MS) (N := 8) hx hb hts i_MS t_MS t_MS_ok n_MS hown hK hP hD hS 0 rfl rfl 7 (by decide) (hts _ gw_1397) (fun _ h9 => h9) rfl (by decide +kernel) rfl rfl (Nat.le_of_ble_eq_true rfl) d_MD_init_16 (fun H locs hP hD hS => ?_)
  have hP : va_P (dC, dI) classes [(h, .inr (13, [.null, .null, .int 0, .int 0, .null, .int 0, .long 0, .int 0]))] H := hP
  have hD : va_D A [(h, .inr (13, [.null, .null, .int 0, .int 0, .null, .int 0, .long 0, .int 0]))] := hD
  refine lv_aload_n hx hb d_MD_init_19 rfl (lv_at hl 0 rfl) ?_
  refine lv_iload_n hx hb d_MD_init_20 rfl (lv_at hl 1 rfl) ?_
  refine va_putF (D := (dC, dI)) (ci := 13) (v := .int 32) (ty := .int) (C := R_MS) (T := F_MS) (N := 8) hx hb hts i_MS t_MS t_MS_ok n_MS hown hK hP hD hS 0 rfl rfl 2 (by decide) (hts _ gw_1392) (fun _ h9 => h9) rfl hin rfl (by decide +kernel) rfl rfl (Nat.le_of_ble_eq_true rfl) d_MD_init_21 (fun H locs hP hD hS => ?_)
  have hP : va_P (dC, dI) classes [(h, .inr (13, [.null, .null, .int 32, .int 0, .null, .int 0, .long 0, .int 0]))] H := hP
  have hD : va_D A [(h, .inr (13, [.null, .null, .int 32, .int 0, .null, .int 0, .long 0, .int 0]))] := hD
  refine lv_aload_n hx hb d_MD_init_24 rfl (lv_at hl 0 rfl) ?_
  refine lv_iload_n hx hb d_MD_init_25 rfl (lv_at hl 2 rfl) ?_
  refine va_putF (D := (dC, dI)) (ci := 13) (v := .int 64) (ty := .int) (C := R_MS) (T := F_MS) (N := 8) hx hb hts i_MS t_MS t_MS_ok n_MS hown hK hP hD hS 0 rfl rfl 3 (by decide) (hts _ gw_1393) (fun _ h9 => h9) rfl hin rfl (by decide +kernel) rfl rfl (Nat.le_of_ble_eq_true rfl) d_MD_init_26 (fun H locs hP hD hS => ?_)
  have hP : va_P (dC, dI) classes [(h, .inr (13, [.null, .null, .int 32, .int 64, .null, .int 0, .long 0, .int 0]))] H := hP
  have hD : va_D A [(h, .inr (13, [.null, .null, .int 32, .int 64, .null, .int 0, .long 0, .int 0]))] := hD
  refine lv_aload_n hx hb d_MD_init_29 rfl (lv_at hl 0 rfl) ?_
  refine lv_iload_n hx hb d_MD_init_30 rfl (lv_at hl 2 rfl) ?_
  refine va_newa (atype := .byte) (ty := .byte) (a0 := (64, .inl (fun _ => 0))) hx hb (hts _ gw_70) rfl hK hP hD hS hA (fun _ => rfl) (by decide) (N' := 64) (by decide) (by decide) (Nat.le_of_ble_eq_true rfl) (Nat.le_of_ble_eq_true rfl) d_MD_init_31 (fun q31 cA H hK hP hD hS => ?_)
  obtain rfl : cB = cA := (xk_u 5 1 hK rfl rfl).symm
  have hK := hK.sub (tys' := [(cI, .int), (cB, .byte), (cL, .long), (cZ, .boolean), (cR, .object "PatchStore$Repository")]) [0, 1, 2, 3, 4] rfl
  have hP : va_P (dC, dI) classes [(h, .inr (13, [.null, .null, .int 32, .int 64, .null, .int 0, .long 0, .int 0])), (q31, .inl (cB, 64, .inl (fun _ => 0)))] H := hP
  have hD : va_D A [(h, .inr (13, [.null, .null, .int 32, .int 64, .null, .int 0, .long 0, .int 0])), (q31, .inl (cB, 64, .inl (fun _ => 0)))] := hD
  refine W.widen (k := 1) (n := 64) (Nat.le_of_ble_eq_true rfl) (Nat.le_of_ble_eq_true rfl) ?_
  refine va_putF (D := (dC, dI)) (ci := 13) (v := .ref q31) (ty := .array .byte) (C := R_MS) (T := F_MS) (N := 8) hx hb hts i_MS t_MS t_MS_ok n_MS hown hK hP hD hS 0 rfl rfl 4 (by decide) (hts _ gw_1394) (fun _ h9 => h9) rfl hin rfl (by decide +kernel) rfl rfl (Nat.le_of_ble_eq_true rfl) d_MD_init_33 (fun H locs hP hD hS => ?_)
  have hP : va_P (dC, dI) classes [(h, .inr (13, [.null, .null, .int 32, .int 64, .ref q31, .int 0, .long 0, .int 0])), (q31, .inl (cB, 64, .inl (fun _ => 0)))] H := hP
  have hD : va_D A [(h, .inr (13, [.null, .null, .int 32, .int 64, .ref q31, .int 0, .long 0, .int 0])), (q31, .inl (cB, 64, .inl (fun _ => 0)))] := hD
  exact W.vret hx hb hr (fun t ht hW => ⟨⟨q31, rfl, trivial, by rw [ht]; exact hP, va_K.moved hW.alike hK, hD⟩, hS.F ht⟩) hS.2.2 d_MD_init_36
set_option maxHeartbeats 4000000 in
set_option maxRecDepth 100000 in
/-- m_MS_init -/
theorem m_MS_init (l : Launch) (dC : Nat → ClassId) (dI : Nat → Nat → Nat) (cI cB cL cZ cR : ClassId) (h : Nat)  (sz : Nat) : Met l y_MS_init ws_MS_init ({ frames := 2, cells := 3, slots := 136, locals := 100 }) (xw_Px dC dI [(cI, .int), (cB, .byte), (cL, .long), (cZ, .boolean), (cR, .object "PatchStore$Repository")] [.ref h] [(h, .inr (13, [.null, .null, .int 0, .int 0, .null, .int 0, .long 0, .int 0]))] sz) (va_Qv (fun _ : Nat × Nat × Nat => True) (fun u t => xw_B dC dI [(cI, .int), (cB, .byte), (cL, .long), (cZ, .boolean), (cR, .object "PatchStore$Repository")] (va_A [(h, .inr (13, [.null, .null, .int 0, .int 0, .null, .int 0, .long 0, .int 0]))] sz) [(h, .inr (13, [.ref u.2.1, .ref u.2.2, .int 32, .int 64, .ref u.1, .int 0, .long 0, .int 0])), (u.1, .inl (cB, 64, .inl (fun _ => 0))), (u.2.1, .inl (cI, 8, .inl (fun _ => 0))), (u.2.2, .inl (cI, 64, .inl (fun _ => 0)))] t) (va_A [(h, .inr (13, [.null, .null, .int 0, .int 0, .null, .int 0, .long 0, .int 0]))] sz)) 3 136 (va_A [(h, .inr (13, [.null, .null, .int 0, .int 0, .null, .int 0, .long 0, .int 0]))] sz) := by
  refine Met.ofW (cc := prog_17_method_1_code) (maxL := 1) (ret := none) (by decide) rfl ?_
  intro p e s m args below meth c s₁ B hml hv
  obtain ⟨rfl, hsz, hP, hK, hD0, hN, hTh⟩ := hv
  have hx := B.exec
  have hb := B.bytes
  have hr := B.returns
  have hts0 := atoms_spec (ws := ws_MS_init) B.pre
  have hts : ∀ w ∈ xg_1, w.before _ s = true := fun w h => hts0 w (List.mem_cons_of_mem _ h)
  have hown : s.vm.findClass "PatchStoreModel$Sha256" = some m.cls := findClass_of_methodNamed B.named
  have hlocks := B.notSynchronized
  have hin : meth.name = "<init>" := (name_of_methodNamed B.named B.method).1
  subst hsz
  have hD := hD0.self (sz := s.heap.size)
  generalize hAe : va_A [(h, .inr (13, [.null, .null, .int 0, .int 0, .null, .int 0, .long 0, .int 0]))] s.heap.size = A at hD hTh ⊢
  have hA : ∀ q : Nat, s.heap.size ≤ q → A q := fun q h => by rw [← hAe]; exact Or.inr h
  have hS : va_S A s.heap s.heap [] := va_S.rf
  have hl := lv_entry ([.ref h]) (n := 1) (Nat.le_of_ble_eq_true rfl)
  rw [lg_entry_eq]
  generalize (lg_sl ([.ref h]) ++ List.replicate (1 - (lg_sl ([.ref h])).length) Slot.unset).toArray = ls at hl ⊢
  have hl : lv_has ls 1 [(0, .ref h)] := hl
  refine lv_aload_n hx hb d_MS_init_0 rfl (lv_at hl 0 rfl) ?_
  refine lv_bipush (v := 32) hx hb d_MS_init_1 (by decide) ?_
  refine lv_bipush (v := 64) hx hb d_MS_init_3 (by decide) ?_
  have hPc := hP.sub (ws' := [(h, .inr (13, [.null, .null, .int 0, .int 0, .null, .int 0, .long 0, .int 0]))]) [0] rfl
  have hDc := hD.sub (ws' := [(h, .inr (13, [.null, .null, .int 0, .int 0, .null, .int 0, .long 0, .int 0]))]) [0] (by decide) rfl
  have hFc := va_free (wc := [(h, .inr (13, [.null, .null, .int 0, .int 0, .null, .int 0, .long 0, .int 0]))]) hD hS hA [0] rfl
  refine va_callv (va_runI (As := [.int 32, .int 64]) (rest := []) ⟨hx, hb, hml, hown, hts⟩ (m_MD_init l dC dI cI cB cL cZ cR h s.heap.size ) (cwI 2 hts (xg_in gw_1388) rfl rfl rfl (hts _ gw_14) (hts _ gw_1386) (hts _ gw_1387) rfl (by decide +kernel) ⟨Nat.le_of_ble_eq_true rfl, Nat.le_of_ble_eq_true rfl⟩) ⟨xw_blindx, fun U hU hW => ⟨rfl, by rw [hU], by rw [hU]; exact hPc, va_K.moved hW.alike hK, hDc.weaken (fun _ _ _ _ => trivial), xg_N.warm hW hN, by rw [hU]; exact ((hTh.kept (fun a h1 h2 => hS.2.1 a h1 h2)).narrow hFc).moved hW.alike⟩⟩ rfl rfl hl.1 rfl (lv_room (Nat.le_of_ble_eq_true rfl)) d_MS_init_5 ⟨Nat.le_of_ble_eq_true rfl, Nat.le_of_ble_eq_true rfl⟩) hS (fun q _ h => hFc q h) hFc (fun u t H1 locs ht hvm hw hB hz1 hk1 hS => ?_)
  refine W.widen (k := 1) (n := 64) (Nat.le_of_ble_eq_true rfl) (Nat.le_of_ble_eq_true rfl) ?_
  obtain ⟨ga, rfl⟩ : ∃ z, z = u := ⟨_, rfl⟩
  obtain ⟨hP1, hK1, hD1⟩ := hB
  rw [ht] at hP1
  obtain ⟨hP, hD⟩ := va_join (wr := []) (w1 := [(h, .inr (13, [.null, .null, .int 32, .int 64, .ref ga, .int 0, .long 0, .int 0])), (ga, .inl (cB, 64, .inl (fun _ => 0)))]) hP hD [0] [] rfl rfl (by decide) (by decide) hk1 hFc hP1 hD1
  generalize H1 = H at hP hS ⊢
  have hP : va_P (dC, dI) classes [(h, .inr (13, [.null, .null, .int 32, .int 64, .ref ga, .int 0, .long 0, .int 0])), (ga, .inl (cB, 64, .inl (fun _ => 0)))] H := hP
  have hD : va_D A [(h, .inr (13, [.null, .null, .int 32, .int 64, .ref ga, .int 0, .long 0, .int 0])), (ga, .inl (cB, 64, .inl (fun _ => 0)))] := hD
  refine lv_aload_n hx hb d_MS_init_8 rfl (lv_at hl 0 rfl) ?_
  refine lv_bipush (v := 8) hx hb d_MS_init_9 (by decide) ?_
  refine va_newa (atype := .int) (ty := .int) (a0 := (8, .inl (fun _ => 0))) hx hb (hts _ gw_71) rfl hK hP hD hS hA (fun _ => rfl) (by decide) (N' := 8) (by decide) (by decide) (Nat.le_of_ble_eq_true rfl) (Nat.le_of_ble_eq_true rfl) d_MS_init_11 (fun q11 cA H hK hP hD hS => ?_)
  obtain rfl : cI = cA := (xk_u 5 0 hK rfl rfl).symm
  have hK := hK.sub (tys' := [(cI, .int), (cB, .byte), (cL, .long), (cZ, .boolean), (cR, .object "PatchStore$Repository")]) [0, 1, 2, 3, 4] rfl
  have hP : va_P (dC, dI) classes [(h, .inr (13, [.null, .null, .int 32, .int 64, .ref ga, .int 0, .long 0, .int 0])), (ga, .inl (cB, 64, .inl (fun _ => 0))), (q11, .inl (cI, 8, .inl (fun _ => 0)))] H := hP
  have hD : va_D A [(h, .inr (13, [.null, .null, .int 32, .int 64, .ref ga, .int 0, .long 0, .int 0])), (ga, .inl (cB, 64, .inl (fun _ => 0))), (q11, .inl (cI, 8, .inl (fun _ => 0)))] := hD
  refine W.widen (k := 2) (n := 72) (Nat.le_of_ble_eq_true rfl) (Nat.le_of_ble_eq_true rfl) ?_
  refine va_putF (D := (dC, dI)) (ci := 13) (v := .ref q11) (ty := .array .int) (C := R_MS) (T := F_MS) (N := 8) hx hb hts i_MS t_MS t_MS_ok n_MS hown hK hP hD hS 0 rfl rfl 0 (by decide) (hts _ gw_1390) (fun _ h9 => h9) rfl hin rfl (by decide +kernel) rfl rfl (Nat.le_of_ble_eq_true rfl) d_MS_init_13 (fun H locs hP hD hS => ?_)
  have hP : va_P (dC, dI) classes [(h, .inr (13, [.ref q11, .null, .int 32, .int 64, .ref ga, .int 0, .long 0, .int 0])), (ga, .inl (cB, 64, .inl (fun _ => 0))), (q11, .inl (cI, 8, .inl (fun _ => 0)))] H := hP
  have hD : va_D A [(h, .inr (13, [.ref q11, .null, .int 32, .int 64, .ref ga, .int 0, .long 0, .int 0])), (ga, .inl (cB, 64, .inl (fun _ => 0))), (q11, .inl (cI, 8, .inl (fun _ => 0)))] := hD
  refine lv_aload_n hx hb d_MS_init_16 rfl (lv_at hl 0 rfl) ?_
  refine lv_bipush (v := 64) hx hb d_MS_init_17 (by decide) ?_
  refine va_newa (atype := .int) (ty := .int) (a0 := (64, .inl (fun _ => 0))) hx hb (hts _ gw_71) rfl hK hP hD hS hA (fun _ => rfl) (by decide) (N' := 64) (by decide) (by decide) (Nat.le_of_ble_eq_true rfl) (Nat.le_of_ble_eq_true rfl) d_MS_init_19 (fun q19 cA H hK hP hD hS => ?_)
  obtain rfl : cI = cA := (xk_u 5 0 hK rfl rfl).symm
  have hK := hK.sub (tys' := [(cI, .int), (cB, .byte), (cL, .long), (cZ, .boolean), (cR, .object "PatchStore$Repository")]) [0, 1, 2, 3, 4] rfl
  have hP : va_P (dC, dI) classes [(h, .inr (13, [.ref q11, .null, .int 32, .int 64, .ref ga, .int 0, .long 0, .int 0])), (ga, .inl (cB, 64, .inl (fun _ => 0))), (q11, .inl (cI, 8, .inl (fun _ => 0))), (q19, .inl (cI, 64, .inl (fun _ => 0)))] H := hP
  have hD : va_D A [(h, .inr (13, [.ref q11, .null, .int 32, .int 64, .ref ga, .int 0, .long 0, .int 0])), (ga, .inl (cB, 64, .inl (fun _ => 0))), (q11, .inl (cI, 8, .inl (fun _ => 0))), (q19, .inl (cI, 64, .inl (fun _ => 0)))] := hD
  refine W.widen (k := 3) (n := 136) (Nat.le_of_ble_eq_true rfl) (Nat.le_of_ble_eq_true rfl) ?_
  refine va_putF (D := (dC, dI)) (ci := 13) (v := .ref q19) (ty := .array .int) (C := R_MS) (T := F_MS) (N := 8) hx hb hts i_MS t_MS t_MS_ok n_MS hown hK hP hD hS 0 rfl rfl 1 (by decide) (hts _ gw_1391) (fun _ h9 => h9) rfl hin rfl (by decide +kernel) rfl rfl (Nat.le_of_ble_eq_true rfl) d_MS_init_21 (fun H locs hP hD hS => ?_)
  have hP : va_P (dC, dI) classes [(h, .inr (13, [.ref q11, .ref q19, .int 32, .int 64, .ref ga, .int 0, .long 0, .int 0])), (ga, .inl (cB, 64, .inl (fun _ => 0))), (q11, .inl (cI, 8, .inl (fun _ => 0))), (q19, .inl (cI, 64, .inl (fun _ => 0)))] H := hP
  have hD : va_D A [(h, .inr (13, [.ref q11, .ref q19, .int 32, .int 64, .ref ga, .int 0, .long 0, .int 0])), (ga, .inl (cB, 64, .inl (fun _ => 0))), (q11, .inl (cI, 8, .inl (fun _ => 0))), (q19, .inl (cI, 64, .inl (fun _ => 0)))] := hD
  exact W.vret hx hb hr (fun t ht hW => ⟨⟨(ga, q11, q19), rfl, trivial, by rw [ht]; exact hP, va_K.moved hW.alike hK, hD⟩, hS.F ht⟩) hS.2.2 d_MS_init_24
