/-! 99e.put.lean.txt -/
theorem gw_188 : (Jvm.Cond.fieldLink "PatchStore$Maker" (128 : Nat) "PatchStore$Stock" "bytes" "[B") ∈ xg_1 := xg_s1 188 rfl rfl
theorem gw_449 : (Jvm.Cond.fieldLink "PatchStore$Maker" (86 : Nat) "PatchStore$Maker" "at" "I") ∈ xg_1 := xg_s2 209 rfl rfl
theorem gw_745 : (Jvm.Cond.constant "PatchStore$Maker" (127 : Nat) (290000 : Int32)) ∈ xg_1 := xg_s4 25 rfl rfl
theorem gw_750 : (Jvm.Cond.methodLink "PatchStore$Maker" (32 : Nat) ({ cls := "PatchStore$Maker", name := "put", desc := "(I)V" } : Jvm.MethodName)) ∈ xg_1 := xg_s4 30 rfl rfl
theorem gw_752 : (Jvm.Cond.instanceMethod ({ cls := "PatchStore$Maker", name := "put", desc := "(I)V" } : Jvm.MethodName)) ∈ xg_1 := xg_s4 32 rfl rfl
theorem gw_753 : (Jvm.Cond.code ({ cls := "PatchStore$Maker", name := "put", desc := "(I)V" } : Jvm.MethodName) prog_6_method_16_code (2 : Nat) (Option.none : Option Jvm.ClassFile.FieldType)) ∈ xg_1 := xg_s4 33 rfl rfl
def y_Mk_put : MethodName := ⟨"PatchStore$Maker", "put", "(I)V"⟩
abbrev c_Mk_put : Cond := (Jvm.Cond.code ({ cls := "PatchStore$Maker", name := "put", desc := "(I)V" } : Jvm.MethodName) prog_6_method_16_code (2 : Nat) (Option.none : Option Jvm.ClassFile.FieldType))
abbrev ws_Mk_put : List Cond := c_Mk_put :: xg_1
theorem d_Mk_put_0 : decode prog_6_method_16_code 0 = .ok (.aload_n 0, 1) := by decide +kernel
theorem d_Mk_put_1 : decode prog_6_method_16_code 1 = .ok (.getfield 86, 3) := by decide +kernel
theorem d_Mk_put_4 : decode prog_6_method_16_code 4 = .ok (.ldc 127, 2) := by decide +kernel
theorem d_Mk_put_6 : decode prog_6_method_16_code 6 = .ok (.if_icmp .ge 27, 3) := by decide +kernel
theorem d_Mk_put_9 : decode prog_6_method_16_code 9 = .ok (.aload_n 0, 1) := by decide +kernel
theorem d_Mk_put_10 : decode prog_6_method_16_code 10 = .ok (.getfield 18, 3) := by decide +kernel
theorem d_Mk_put_13 : decode prog_6_method_16_code 13 = .ok (.getfield 128, 3) := by decide +kernel
theorem d_Mk_put_16 : decode prog_6_method_16_code 16 = .ok (.aload_n 0, 1) := by decide +kernel
theorem d_Mk_put_17 : decode prog_6_method_16_code 17 = .ok (.getfield 86, 3) := by decide +kernel
theorem d_Mk_put_20 : decode prog_6_method_16_code 20 = .ok (.iload_n 1, 1) := by decide +kernel
theorem d_Mk_put_21 : decode prog_6_method_16_code 21 = .ok (.i2b, 1) := by decide +kernel
theorem d_Mk_put_22 : decode prog_6_method_16_code 22 = .ok (.bastore, 1) := by decide +kernel
theorem d_Mk_put_23 : decode prog_6_method_16_code 23 = .ok (.aload_n 0, 1) := by decide +kernel
theorem d_Mk_put_24 : decode prog_6_method_16_code 24 = .ok (.dup, 1) := by decide +kernel
theorem d_Mk_put_25 : decode prog_6_method_16_code 25 = .ok (.getfield 86, 3) := by decide +kernel
theorem d_Mk_put_28 : decode prog_6_method_16_code 28 = .ok (.iconst 1, 1) := by decide +kernel
theorem d_Mk_put_29 : decode prog_6_method_16_code 29 = .ok (.iadd, 1) := by decide +kernel
theorem d_Mk_put_30 : decode prog_6_method_16_code 30 = .ok (.putfield 86, 3) := by decide +kernel
theorem d_Mk_put_33 : decode prog_6_method_16_code 33 = .ok (.return_, 1) := by decide +kernel
def y_Mk_putTwo : MethodName := ⟨"PatchStore$Maker", "putTwo", "(I)V"⟩
abbrev c_Mk_putTwo : Cond := (Jvm.Cond.code ({ cls := "PatchStore$Maker", name := "putTwo", desc := "(I)V" } : Jvm.MethodName) prog_6_method_14_code (2 : Nat) (Option.none : Option Jvm.ClassFile.FieldType))
abbrev ws_Mk_putTwo : List Cond := c_Mk_putTwo :: xg_1
theorem d_Mk_putTwo_0 : decode prog_6_method_14_code 0 = .ok (.aload_n 0, 1) := by decide +kernel
theorem d_Mk_putTwo_1 : decode prog_6_method_14_code 1 = .ok (.getfield 86, 3) := by decide +kernel
theorem d_Mk_putTwo_4 : decode prog_6_method_14_code 4 = .ok (.iconst 1, 1) := by decide +kernel
theorem d_Mk_putTwo_5 : decode prog_6_method_14_code 5 = .ok (.iadd, 1) := by decide +kernel
theorem d_Mk_putTwo_6 : decode prog_6_method_14_code 6 = .ok (.ldc 127, 2) := by decide +kernel
theorem d_Mk_putTwo_8 : decode prog_6_method_14_code 8 = .ok (.if_icmp .ge 46, 3) := by decide +kernel
theorem d_Mk_putTwo_11 : decode prog_6_method_14_code 11 = .ok (.aload_n 0, 1) := by decide +kernel
theorem d_Mk_putTwo_12 : decode prog_6_method_14_code 12 = .ok (.getfield 18, 3) := by decide +kernel
theorem d_Mk_putTwo_15 : decode prog_6_method_14_code 15 = .ok (.getfield 128, 3) := by decide +kernel
theorem d_Mk_putTwo_18 : decode prog_6_method_14_code 18 = .ok (.aload_n 0, 1) := by decide +kernel
theorem d_Mk_putTwo_19 : decode prog_6_method_14_code 19 = .ok (.getfield 86, 3) := by decide +kernel
theorem d_Mk_putTwo_22 : decode prog_6_method_14_code 22 = .ok (.iload_n 1, 1) := by decide +kernel
theorem d_Mk_putTwo_23 : decode prog_6_method_14_code 23 = .ok (.bipush 8, 2) := by decide +kernel
theorem d_Mk_putTwo_25 : decode prog_6_method_14_code 25 = .ok (.ishr, 1) := by decide +kernel
theorem d_Mk_putTwo_26 : decode prog_6_method_14_code 26 = .ok (.i2b, 1) := by decide +kernel
theorem d_Mk_putTwo_27 : decode prog_6_method_14_code 27 = .ok (.bastore, 1) := by decide +kernel
theorem d_Mk_putTwo_28 : decode prog_6_method_14_code 28 = .ok (.aload_n 0, 1) := by decide +kernel
theorem d_Mk_putTwo_29 : decode prog_6_method_14_code 29 = .ok (.getfield 18, 3) := by decide +kernel
theorem d_Mk_putTwo_32 : decode prog_6_method_14_code 32 = .ok (.getfield 128, 3) := by decide +kernel
theorem d_Mk_putTwo_35 : decode prog_6_method_14_code 35 = .ok (.aload_n 0, 1) := by decide +kernel
theorem d_Mk_putTwo_36 : decode prog_6_method_14_code 36 = .ok (.getfield 86, 3) := by decide +kernel
theorem d_Mk_putTwo_39 : decode prog_6_method_14_code 39 = .ok (.iconst 1, 1) := by decide +kernel
theorem d_Mk_putTwo_40 : decode prog_6_method_14_code 40 = .ok (.iadd, 1) := by decide +kernel
theorem d_Mk_putTwo_41 : decode prog_6_method_14_code 41 = .ok (.iload_n 1, 1) := by decide +kernel
theorem d_Mk_putTwo_42 : decode prog_6_method_14_code 42 = .ok (.i2b, 1) := by decide +kernel
theorem d_Mk_putTwo_43 : decode prog_6_method_14_code 43 = .ok (.bastore, 1) := by decide +kernel
theorem d_Mk_putTwo_44 : decode prog_6_method_14_code 44 = .ok (.aload_n 0, 1) := by decide +kernel
theorem d_Mk_putTwo_45 : decode prog_6_method_14_code 45 = .ok (.dup, 1) := by decide +kernel
theorem d_Mk_putTwo_46 : decode prog_6_method_14_code 46 = .ok (.getfield 86, 3) := by decide +kernel
theorem d_Mk_putTwo_49 : decode prog_6_method_14_code 49 = .ok (.iconst 2, 1) := by decide +kernel
theorem d_Mk_putTwo_50 : decode prog_6_method_14_code 50 = .ok (.iadd, 1) := by decide +kernel
theorem d_Mk_putTwo_51 : decode prog_6_method_14_code 51 = .ok (.putfield 86, 3) := by decide +kernel
theorem d_Mk_putTwo_54 : decode prog_6_method_14_code 54 = .ok (.return_, 1) := by decide +kernel
def y_Mk_putBytes : MethodName := ⟨"PatchStore$Maker", "putBytes", "([BII)V"⟩
abbrev c_Mk_putBytes : Cond := (Jvm.Cond.code ({ cls := "PatchStore$Maker", name := "putBytes", desc := "([BII)V" } : Jvm.MethodName) prog_6_method_15_code (5 : Nat) (Option.none : Option Jvm.ClassFile.FieldType))
abbrev ws_Mk_putBytes : List Cond := c_Mk_putBytes :: xg_1
theorem d_Mk_putBytes_0 : decode prog_6_method_15_code 0 = .ok (.iconst 0, 1) := by decide +kernel
theorem d_Mk_putBytes_1 : decode prog_6_method_15_code 1 = .ok (.istore 4, 2) := by decide +kernel
theorem d_Mk_putBytes_3 : decode prog_6_method_15_code 3 = .ok (.iload 4, 2) := by decide +kernel
theorem d_Mk_putBytes_5 : decode prog_6_method_15_code 5 = .ok (.iload_n 3, 1) := by decide +kernel
theorem d_Mk_putBytes_6 : decode prog_6_method_15_code 6 = .ok (.if_icmp .ge 19, 3) := by decide +kernel
theorem d_Mk_putBytes_9 : decode prog_6_method_15_code 9 = .ok (.aload_n 0, 1) := by decide +kernel
theorem d_Mk_putBytes_10 : decode prog_6_method_15_code 10 = .ok (.aload_n 1, 1) := by decide +kernel
theorem d_Mk_putBytes_11 : decode prog_6_method_15_code 11 = .ok (.iload_n 2, 1) := by decide +kernel
theorem d_Mk_putBytes_12 : decode prog_6_method_15_code 12 = .ok (.iload 4, 2) := by decide +kernel
theorem d_Mk_putBytes_14 : decode prog_6_method_15_code 14 = .ok (.iadd, 1) := by decide +kernel
theorem d_Mk_putBytes_15 : decode prog_6_method_15_code 15 = .ok (.baload, 1) := by decide +kernel
theorem d_Mk_putBytes_16 : decode prog_6_method_15_code 16 = .ok (.invokevirtual 32, 3) := by decide +kernel
theorem d_Mk_putBytes_19 : decode prog_6_method_15_code 19 = .ok (.iinc 4 1, 3) := by decide +kernel
theorem d_Mk_putBytes_22 : decode prog_6_method_15_code 22 = .ok (.goto (-19), 3) := by decide +kernel
theorem d_Mk_putBytes_25 : decode prog_6_method_15_code 25 = .ok (.return_, 1) := by decide +kernel
/-- the bytes WL written over b from a on -/
def wrL (b : Nat → Int32) (a : Nat) (L : List Int32) : Nat → Int32 := fun k => if a ≤ k ∧ k < a + L.length then L.getD (k - a) 0 else b k
theorem wrL_nil (b : Nat → Int32) (a : Nat) : wrL b a [] = b := by
  funext k
  unfold wrL
  exact if_neg (fun z => absurd z.2 (by show ¬ k < a + 0; omega))
theorem wrL_push (b : Nat → Int32) (a : Nat) (L : List Int32) (v : Int32) : upd (wrL b a L) (a + L.length) v = wrL b a (L ++ [v]) := by
  have hl : (L ++ [v]).length = L.length + 1 := by rw [List.length_append]; rfl
  funext k
  by_cases e : k = a + L.length
  · subst e
    rw [upd_eq]
    unfold wrL
    rw [if_pos (by omega), Nat.add_sub_cancel_left, List.getD_eq_getElem?_getD, List.getElem?_append_right (Nat.le_refl _), Nat.sub_self]
    rfl
  · rw [upd_ne _ e]
    unfold wrL
    by_cases z : a ≤ k ∧ k < a + L.length
    · rw [if_pos z, if_pos (by omega), List.getD_eq_getElem?_getD, List.getD_eq_getElem?_getD, List.getElem?_append_left (by omega)]
    · rw [if_neg z, if_neg (by omega)]
/-- a byte -/
def by1 (v : Int32) : Int32 := v.toInt8.toInt32
/-- two bytes -/
def by2 (v : Int32) : List Int32 := [by1 (v >>> (8 &&& 31)), by1 v]
theorem len1 (L : List Int32) (v : Int32) : L.length + 1 = (L ++ [v]).length := by rw [List.length_append]; rfl
theorem len2 (L : List Int32) (v : Int32) : L.length + 2 = (L ++ by2 v).length := by rw [List.length_append]; rfl
theorem wrL_two (b : Nat → Int32) (a : Nat) (L : List Int32) (v : Int32) : upd (upd (wrL b a L) (a + L.length) (by1 (v >>> (8 &&& 31)))) (a + L.length + 1) (by1 v) = wrL b a (L ++ by2 v) := by
  rw [wrL_push, Nat.add_assoc, len1 L (by1 (v >>> (8 &&& 31))), wrL_push, List.append_assoc]
  rfl
/-- n bytes of g from a on -/
def byL (g : Nat → Int32) (a : Nat) : Nat → List Int32
  | 0 => []
  | n + 1 => byL g a n ++ [g (a + n)]
theorem byL_len (g : Nat → Int32) (a : Nat) : ∀ n, (byL g a n).length = n
  | 0 => rfl
  | n + 1 => by
    show (byL g a n ++ [g (a + n)]).length = n + 1
    rw [List.length_append, byL_len g a n]; rfl
set_option maxHeartbeats 4000000 in
set_option maxRecDepth 100000 in
/-- a byte is put -/
theorem m_Mk_put (l : Launch) (dC : Nat → ClassId) (dI : Nat → Nat → Nat) (cI cB cL cZ cR : ClassId) (h sk b_y : Nat) (mk_named mk_places mk_changes sk_from sk_firstDependency sk_firstChange sk_dependencies sk_hashes sk_byHash sk_leansOn sk_leantBy sk_changes sk_lines sk_patches : Value) (bb : Nat → Int32) (a0 : Nat) (WL : List Int32) (v9 : Int32) (sz : Nat) (hb9 : a0 + WL.length < 290000) : Met l y_Mk_put ws_Mk_put ({ frames := 0, cells := 0, slots := 0, locals := 0 }) (xw_Pc dC dI [(cI, .int), (cB, .byte), (cL, .long), (cZ, .boolean), (cR, .object "PatchStore$Repository")] [.ref h, .int v9] [(h, .inr (5, [.ref sk, mk_named, mk_places, .int (nI (a0 + WL.length)), mk_changes])), (sk, .inr (9, [.ref b_y, sk_from, sk_firstDependency, sk_firstChange, sk_dependencies, sk_hashes, sk_byHash, sk_leansOn, sk_leantBy, sk_changes, sk_lines, sk_patches])), (b_y, .inl (cB, 290000, .inl (wrL bb a0 WL)))] sz) (va_Qv (fun _ : Unit => True) (fun _ t => xw_B dC dI [(cI, .int), (cB, .byte), (cL, .long), (cZ, .boolean), (cR, .object "PatchStore$Repository")] (va_A [(h, .inr (5, [.ref sk, mk_named, mk_places, .int (nI (a0 + WL.length)), mk_changes])), (sk, .inr (9, [.ref b_y, sk_from, sk_firstDependency, sk_firstChange, sk_dependencies, sk_hashes, sk_byHash, sk_leansOn, sk_leantBy, sk_changes, sk_lines, sk_patches])), (b_y, .inl (cB, 290000, .inl (wrL bb a0 WL)))] sz) [(h, .inr (5, [.ref sk, mk_named, mk_places, .int (nI (a0 + (WL ++ [by1 v9]).length)), mk_changes])), (sk, .inr (9, [.ref b_y, sk_from, sk_firstDependency, sk_firstChange, sk_dependencies, sk_hashes, sk_byHash, sk_leansOn, sk_leantBy, sk_changes, sk_lines, sk_patches])), (b_y, .inl (cB, 290000, .inl (wrL bb a0 (WL ++ [by1 v9]))))] t) (va_A [(h, .inr (5, [.ref sk, mk_named, mk_places, .int (nI (a0 + WL.length)), mk_changes])), (sk, .inr (9, [.ref b_y, sk_from, sk_firstDependency, sk_firstChange, sk_dependencies, sk_hashes, sk_byHash, sk_leansOn, sk_leantBy, sk_changes, sk_lines, sk_patches])), (b_y, .inl (cB, 290000, .inl (wrL bb a0 WL)))] sz)) 0 0 (va_A [(h, .inr (5, [.ref sk, mk_named, mk_places, .int (nI (a0 + WL.length)), mk_changes])), (sk, .inr (9, [.ref b_y, sk_from, sk_firstDependency, sk_firstChange, sk_dependencies, sk_hashes, sk_byHash, sk_leansOn, sk_leantBy, sk_changes, sk_lines, sk_patches])), (b_y, .inl (cB, 290000, .inl (wrL bb a0 WL)))] sz) := by
  refine Met.ofW (cc := prog_6_method_16_code) (maxL := 2) (ret := none) (by decide) rfl ?_
  intro p e s m args below meth c s₁ B hml hv
  obtain ⟨rfl, hsz, hP, hK, hD0⟩ := hv
  have hx := B.exec
  have hb := B.bytes
  have hr := B.returns
  have hts0 := atoms_spec (ws := ws_Mk_put) B.pre
  have hts : ∀ w ∈ xg_1, w.before _ s = true := fun w h => hts0 w (List.mem_cons_of_mem _ h)
  have hown : s.vm.findClass "PatchStore$Maker" = some m.cls := findClass_of_methodNamed B.named
  have hlocks := B.notSynchronized
  subst hsz
  have hD := hD0.self (sz := s.heap.size)
  generalize hAe : va_A [(h, .inr (5, [.ref sk, mk_named, mk_places, .int (nI (a0 + WL.length)), mk_changes])), (sk, .inr (9, [.ref b_y, sk_from, sk_firstDependency, sk_firstChange, sk_dependencies, sk_hashes, sk_byHash, sk_leansOn, sk_leantBy, sk_changes, sk_lines, sk_patches])), (b_y, .inl (cB, 290000, .inl (wrL bb a0 WL)))] s.heap.size = A at hD ⊢
  have hA : ∀ q : Nat, s.heap.size ≤ q → A q := fun q h => by rw [← hAe]; exact Or.inr h
  have hS : va_S A s.heap s.heap [] := va_S.rf
  have hl := lv_entry ([.ref h, .int v9]) (n := 2) (Nat.le_of_ble_eq_true rfl)
  rw [lg_entry_eq]
  generalize (lg_sl ([.ref h, .int v9]) ++ List.replicate (2 - (lg_sl ([.ref h, .int v9])).length) Slot.unset).toArray = ls at hl ⊢
  have hl : lv_has ls 2 [(0, .ref h), (1, .int v9)] := hl
  refine lv_aload_n hx hb d_Mk_put_0 rfl (lv_at hl 0 rfl) ?_
  refine va_get (D := (dC, dI)) (ci := 5) (v := .int (nI (a0 + WL.length))) (C := R_Mk) (T := F_Mk) (N := 5) hx hb hts i_Mk hown hK hP 0 rfl rfl 3 (by decide) (hts _ gw_449) (fun _ h9 => h9) rfl d_Mk_put_1 ?_
  refine lv_ldc (own := "PatchStore$Maker") hx hb hown (hts _ gw_745) d_Mk_put_4 ?_
  refine lv_icmp_ge (tgt := 33) hx hb d_Mk_put_6 (by decide) (fun c_6 => absurd c_6 (fun z => absurd ((nI_leI (a := 290000) (b := a0 + WL.length) (by omega) (by omega)).mp z) (by omega))) (fun _ => ?_)
  refine lv_aload_n hx hb d_Mk_put_9 rfl (lv_at hl 0 rfl) ?_
  refine va_get (D := (dC, dI)) (ci := 5) (v := .ref sk) (C := R_Mk) (T := F_Mk) (N := 5) hx hb hts i_Mk hown hK hP 0 rfl rfl 0 (by decide) (hts _ gw_446) (fun _ h9 => h9) rfl d_Mk_put_10 ?_
  refine va_get (D := (dC, dI)) (ci := 9) (v := .ref b_y) (C := R_St) (T := F_St) (N := 12) hx hb hts i_St hown hK hP 1 rfl rfl 0 (by decide) (hts _ gw_188) (fun _ h9 => h9) rfl d_Mk_put_13 ?_
  refine lv_aload_n hx hb d_Mk_put_16 rfl (lv_at hl 0 rfl) ?_
  refine va_get (D := (dC, dI)) (ci := 5) (v := .int (nI (a0 + WL.length))) (C := R_Mk) (T := F_Mk) (N := 5) hx hb hts i_Mk hown hK hP 0 rfl rfl 3 (by decide) (hts _ gw_449) (fun _ h9 => h9) rfl d_Mk_put_17 ?_
  refine lv_iload_n hx hb d_Mk_put_20 rfl (lv_at hl 1 rfl) ?_
  refine lv_i2b hx hb d_Mk_put_21 rfl ?_
  refine va_bast hx hb hK hP hD hS 2 1 rfl rfl (vp_in_nI (by omega) (by omega)) d_Mk_put_22 (fun H locs hP hD hS => ?_)
  rw [show (nI (a0 + WL.length)).toNatClampNeg = (a0 + WL.length) from nI_clamp (by omega)] at hP hD
  rw [pk_vb] at hP hD
  have hP : va_P (dC, dI) classes [(h, .inr (5, [.ref sk, mk_named, mk_places, .int (nI (a0 + WL.length)), mk_changes])), (sk, .inr (9, [.ref b_y, sk_from, sk_firstDependency, sk_firstChange, sk_dependencies, sk_hashes, sk_byHash, sk_leansOn, sk_leantBy, sk_changes, sk_lines, sk_patches])), (b_y, .inl (cB, 290000, .inl (upd (wrL bb a0 WL) (a0 + WL.length) ((v9 : Int32).toInt8.toInt32))))] H := hP
  have hD : va_D A [(h, .inr (5, [.ref sk, mk_named, mk_places, .int (nI (a0 + WL.length)), mk_changes])), (sk, .inr (9, [.ref b_y, sk_from, sk_firstDependency, sk_firstChange, sk_dependencies, sk_hashes, sk_byHash, sk_leansOn, sk_leantBy, sk_changes, sk_lines, sk_patches])), (b_y, .inl (cB, 290000, .inl (upd (wrL bb a0 WL) (a0 + WL.length) ((v9 : Int32).toInt8.toInt32))))] := hD
  refine lv_aload_n hx hb d_Mk_put_23 rfl (lv_at hl 0 rfl) ?_
  refine lv_dup hx hb d_Mk_put_24 rfl ?_
  refine va_get (D := (dC, dI)) (ci := 5) (v := .int (nI (a0 + WL.length))) (C := R_Mk) (T := F_Mk) (N := 5) hx hb hts i_Mk hown hK hP 0 rfl rfl 3 (by decide) (hts _ gw_449) (fun _ h9 => h9) rfl d_Mk_put_25 ?_
  refine lv_iconst (v := 1) hx hb d_Mk_put_28 (by decide) ?_
  refine lv_iadd hx hb d_Mk_put_29 ?_
  refine lv_topi (fun x_1 ex_1 => ?_)
  obtain rfl : x_1 = nI (a0 + WL.length + 1) := by rw [ex_1]; first | done | (exact nI_add _ _)
  refine va_put (D := (dC, dI)) (ci := 5) (v := .int (nI (a0 + WL.length + 1))) (ty := .int) (C := R_Mk) (T := F_Mk) (N := 5) hx hb hts i_Mk t_Mk t_Mk_ok n_Mk hown hK hP hD hS 0 rfl rfl 3 (by decide) (hts _ gw_449) (fun _ h9 => h9) rfl (by decide +kernel) rfl rfl (Nat.le_of_ble_eq_true rfl) d_Mk_put_30 (fun H locs hP hD hS => ?_)
  have hP : va_P (dC, dI) classes [(h, .inr (5, [.ref sk, mk_named, mk_places, .int (nI (a0 + WL.length + 1)), mk_changes])), (sk, .inr (9, [.ref b_y, sk_from, sk_firstDependency, sk_firstChange, sk_dependencies, sk_hashes, sk_byHash, sk_leansOn, sk_leantBy, sk_changes, sk_lines, sk_patches])), (b_y, .inl (cB, 290000, .inl (upd (wrL bb a0 WL) (a0 + WL.length) ((v9 : Int32).toInt8.toInt32))))] H := hP
  have hD : va_D A [(h, .inr (5, [.ref sk, mk_named, mk_places, .int (nI (a0 + WL.length + 1)), mk_changes])), (sk, .inr (9, [.ref b_y, sk_from, sk_firstDependency, sk_firstChange, sk_dependencies, sk_hashes, sk_byHash, sk_leansOn, sk_leantBy, sk_changes, sk_lines, sk_patches])), (b_y, .inl (cB, 290000, .inl (upd (wrL bb a0 WL) (a0 + WL.length) ((v9 : Int32).toInt8.toInt32))))] := hD
  rw [show upd (wrL bb a0 WL) (a0 + WL.length) ((v9 : Int32).toInt8.toInt32) = wrL bb a0 (WL ++ [by1 v9]) from wrL_push _ _ _ _, show nI (a0 + WL.length + 1) = nI (a0 + (WL ++ [by1 v9]).length) from congrArg nI (by rw [Nat.add_assoc, len1 WL (by1 v9)])] at hP hD
  exact W.vret hx hb hr (fun t ht hW => ⟨⟨(), rfl, trivial, by rw [ht]; exact hP, va_K.moved hW.alike hK, hD⟩, hS.F ht⟩) hS.2.2 d_Mk_put_33
set_option maxHeartbeats 4000000 in
set_option maxRecDepth 100000 in
/-- two bytes are put -/
theorem m_Mk_putTwo (l : Launch) (dC : Nat → ClassId) (dI : Nat → Nat → Nat) (cI cB cL cZ cR : ClassId) (h sk b_y : Nat) (mk_named mk_places mk_changes sk_from sk_firstDependency sk_firstChange sk_dependencies sk_hashes sk_byHash sk_leansOn sk_leantBy sk_changes sk_lines sk_patches : Value) (bb : Nat → Int32) (a0 : Nat) (WL : List Int32) (v9 : Int32) (sz : Nat) (hb9 : a0 + WL.length + 1 < 290000) : Met l y_Mk_putTwo ws_Mk_putTwo ({ frames := 0, cells := 0, slots := 0, locals := 0 }) (xw_Pc dC dI [(cI, .int), (cB, .byte), (cL, .long), (cZ, .boolean), (cR, .object "PatchStore$Repository")] [.ref h, .int v9] [(h, .inr (5, [.ref sk, mk_named, mk_places, .int (nI (a0 + WL.length)), mk_changes])), (sk, .inr (9, [.ref b_y, sk_from, sk_firstDependency, sk_firstChange, sk_dependencies, sk_hashes, sk_byHash, sk_leansOn, sk_leantBy, sk_changes, sk_lines, sk_patches])), (b_y, .inl (cB, 290000, .inl (wrL bb a0 WL)))] sz) (va_Qv (fun _ : Unit => True) (fun _ t => xw_B dC dI [(cI, .int), (cB, .byte), (cL, .long), (cZ, .boolean), (cR, .object "PatchStore$Repository")] (va_A [(h, .inr (5, [.ref sk, mk_named, mk_places, .int (nI (a0 + WL.length)), mk_changes])), (sk, .inr (9, [.ref b_y, sk_from, sk_firstDependency, sk_firstChange, sk_dependencies, sk_hashes, sk_byHash, sk_leansOn, sk_leantBy, sk_changes, sk_lines, sk_patches])), (b_y, .inl (cB, 290000, .inl (wrL bb a0 WL)))] sz) [(h, .inr (5, [.ref sk, mk_named, mk_places, .int (nI (a0 + (WL ++ by2 v9).length)), mk_changes])), (sk, .inr (9, [.ref b_y, sk_from, sk_firstDependency, sk_firstChange, sk_dependencies, sk_hashes, sk_byHash, sk_leansOn, sk_leantBy, sk_changes, sk_lines, sk_patches])), (b_y, .inl (cB, 290000, .inl (wrL bb a0 (WL ++ by2 v9))))] t) (va_A [(h, .inr (5, [.ref sk, mk_named, mk_places, .int (nI (a0 + WL.length)), mk_changes])), (sk, .inr (9, [.ref b_y, sk_from, sk_firstDependency, sk_firstChange, sk_dependencies, sk_hashes, sk_byHash, sk_leansOn, sk_leantBy, sk_changes, sk_lines, sk_patches])), (b_y, .inl (cB, 290000, .inl (wrL bb a0 WL)))] sz)) 0 0 (va_A [(h, .inr (5, [.ref sk, mk_named, mk_places, .int (nI (a0 + WL.length)), mk_changes])), (sk, .inr (9, [.ref b_y, sk_from, sk_firstDependency, sk_firstChange, sk_dependencies, sk_hashes, sk_byHash, sk_leansOn, sk_leantBy, sk_changes, sk_lines, sk_patches])), (b_y, .inl (cB, 290000, .inl (wrL bb a0 WL)))] sz) := by
  refine Met.ofW (cc := prog_6_method_14_code) (maxL := 2) (ret := none) (by decide) rfl ?_
  intro p e s m args below meth c s₁ B hml hv
  obtain ⟨rfl, hsz, hP, hK, hD0⟩ := hv
  have hx := B.exec
  have hb := B.bytes
  have hr := B.returns
  have hts0 := atoms_spec (ws := ws_Mk_putTwo) B.pre
  have hts : ∀ w ∈ xg_1, w.before _ s = true := fun w h => hts0 w (List.mem_cons_of_mem _ h)
  have hown : s.vm.findClass "PatchStore$Maker" = some m.cls := findClass_of_methodNamed B.named
  have hlocks := B.notSynchronized
  subst hsz
  have hD := hD0.self (sz := s.heap.size)
  generalize hAe : va_A [(h, .inr (5, [.ref sk, mk_named, mk_places, .int (nI (a0 + WL.length)), mk_changes])), (sk, .inr (9, [.ref b_y, sk_from, sk_firstDependency, sk_firstChange, sk_dependencies, sk_hashes, sk_byHash, sk_leansOn, sk_leantBy, sk_changes, sk_lines, sk_patches])), (b_y, .inl (cB, 290000, .inl (wrL bb a0 WL)))] s.heap.size = A at hD ⊢
  have hA : ∀ q : Nat, s.heap.size ≤ q → A q := fun q h => by rw [← hAe]; exact Or.inr h
  have hS : va_S A s.heap s.heap [] := va_S.rf
  have hl := lv_entry ([.ref h, .int v9]) (n := 2) (Nat.le_of_ble_eq_true rfl)
  rw [lg_entry_eq]
  generalize (lg_sl ([.ref h, .int v9]) ++ List.replicate (2 - (lg_sl ([.ref h, .int v9])).length) Slot.unset).toArray = ls at hl ⊢
  have hl : lv_has ls 2 [(0, .ref h), (1, .int v9)] := hl
  refine lv_aload_n hx hb d_Mk_putTwo_0 rfl (lv_at hl 0 rfl) ?_
  refine va_get (D := (dC, dI)) (ci := 5) (v := .int (nI (a0 + WL.length))) (C := R_Mk) (T := F_Mk) (N := 5) hx hb hts i_Mk hown hK hP 0 rfl rfl 3 (by decide) (hts _ gw_449) (fun _ h9 => h9) rfl d_Mk_putTwo_1 ?_
  refine lv_iconst (v := 1) hx hb d_Mk_putTwo_4 (by decide) ?_
  refine lv_iadd hx hb d_Mk_putTwo_5 ?_
  refine lv_topi (fun x_1 ex_1 => ?_)
  obtain rfl : x_1 = nI (a0 + WL.length + 1) := by rw [ex_1]; first | done | (exact nI_add _ _)
  refine lv_ldc (own := "PatchStore$Maker") hx hb hown (hts _ gw_745) d_Mk_putTwo_6 ?_
  refine lv_icmp_ge (tgt := 54) hx hb d_Mk_putTwo_8 (by decide) (fun c_8 => absurd c_8 (fun z => absurd ((nI_leI (a := 290000) (b := a0 + WL.length + 1) (by omega) (by omega)).mp z) (by omega))) (fun _ => ?_)
  refine lv_aload_n hx hb d_Mk_putTwo_11 rfl (lv_at hl 0 rfl) ?_
  refine va_get (D := (dC, dI)) (ci := 5) (v := .ref sk) (C := R_Mk) (T := F_Mk) (N := 5) hx hb hts i_Mk hown hK hP 0 rfl rfl 0 (by decide) (hts _ gw_446) (fun _ h9 => h9) rfl d_Mk_putTwo_12 ?_
  refine va_get (D := (dC, dI)) (ci := 9) (v := .ref b_y) (C := R_St) (T := F_St) (N := 12) hx hb hts i_St hown hK hP 1 rfl rfl 0 (by decide) (hts _ gw_188) (fun _ h9 => h9) rfl d_Mk_putTwo_15 ?_
  refine lv_aload_n hx hb d_Mk_putTwo_18 rfl (lv_at hl 0 rfl) ?_
  refine va_get (D := (dC, dI)) (ci := 5) (v := .int (nI (a0 + WL.length))) (C := R_Mk) (T := F_Mk) (N := 5) hx hb hts i_Mk hown hK hP 0 rfl rfl 3 (by decide) (hts _ gw_449) (fun _ h9 => h9) rfl d_Mk_putTwo_19 ?_
  refine lv_iload_n hx hb d_Mk_putTwo_22 rfl (lv_at hl 1 rfl) ?_
  refine lv_bipush (v := 8) hx hb d_Mk_putTwo_23 (by decide) ?_
  refine lv_ishr hx hb d_Mk_putTwo_25 ?_
  refine lv_i2b hx hb d_Mk_putTwo_26 rfl ?_
  refine va_bast hx hb hK hP hD hS 2 1 rfl rfl (vp_in_nI (by omega) (by omega)) d_Mk_putTwo_27 (fun H locs hP hD hS => ?_)
  rw [show (nI (a0 + WL.length)).toNatClampNeg = (a0 + WL.length) from nI_clamp (by omega)] at hP hD
  rw [pk_vb] at hP hD
  have hP : va_P (dC, dI) classes [(h, .inr (5, [.ref sk, mk_named, mk_places, .int (nI (a0 + WL.length)), mk_changes])), (sk, .inr (9, [.ref b_y, sk_from, sk_firstDependency, sk_firstChange, sk_dependencies, sk_hashes, sk_byHash, sk_leansOn, sk_leantBy, sk_changes, sk_lines, sk_patches])), (b_y, .inl (cB, 290000, .inl (upd (wrL bb a0 WL) (a0 + WL.length) ((v9 >>> (8 &&& 31) : Int32).toInt8.toInt32))))] H := hP
  have hD : va_D A [(h, .inr (5, [.ref sk, mk_named, mk_places, .int (nI (a0 + WL.length)), mk_changes])), (sk, .inr (9, [.ref b_y, sk_from, sk_firstDependency, sk_firstChange, sk_dependencies, sk_hashes, sk_byHash, sk_leansOn, sk_leantBy, sk_changes, sk_lines, sk_patches])), (b_y, .inl (cB, 290000, .inl (upd (wrL bb a0 WL) (a0 + WL.length) ((v9 >>> (8 &&& 31) : Int32).toInt8.toInt32))))] := hD
  refine lv_aload_n hx hb d_Mk_putTwo_28 rfl (lv_at hl 0 rfl) ?_
  refine va_get (D := (dC, dI)) (ci := 5) (v := .ref sk) (C := R_Mk) (T := F_Mk) (N := 5) hx hb hts i_Mk hown hK hP 0 rfl rfl 0 (by decide) (hts _ gw_446) (fun _ h9 => h9) rfl d_Mk_putTwo_29 ?_
  refine va_get (D := (dC, dI)) (ci := 9) (v := .ref b_y) (C := R_St) (T := F_St) (N := 12) hx hb hts i_St hown hK hP 1 rfl rfl 0 (by decide) (hts _ gw_188) (fun _ h9 => h9) rfl d_Mk_putTwo_32 ?_
  refine lv_aload_n hx hb d_Mk_putTwo_35 rfl (lv_at hl 0 rfl) ?_
  refine va_get (D := (dC, dI)) (ci := 5) (v := .int (nI (a0 + WL.length))) (C := R_Mk) (T := F_Mk) (N := 5) hx hb hts i_Mk hown hK hP 0 rfl rfl 3 (by decide) (hts _ gw_449) (fun _ h9 => h9) rfl d_Mk_putTwo_36 ?_
  refine lv_iconst (v := 1) hx hb d_Mk_putTwo_39 (by decide) ?_
  refine lv_iadd hx hb d_Mk_putTwo_40 ?_
  refine lv_topi (fun x_2 ex_2 => ?_)
  obtain rfl : x_2 = nI (a0 + WL.length + 1) := by rw [ex_2]; first | done | (exact nI_add _ _)
  refine lv_iload_n hx hb d_Mk_putTwo_41 rfl (lv_at hl 1 rfl) ?_
  refine lv_i2b hx hb d_Mk_putTwo_42 rfl ?_
  refine va_bast hx hb hK hP hD hS 2 1 rfl rfl (vp_in_nI (by omega) (by omega)) d_Mk_putTwo_43 (fun H locs hP hD hS => ?_)
  rw [show (nI (a0 + WL.length + 1)).toNatClampNeg = (a0 + WL.length + 1) from nI_clamp (by omega)] at hP hD
  rw [pk_vb] at hP hD
  have hP : va_P (dC, dI) classes [(h, .inr (5, [.ref sk, mk_named, mk_places, .int (nI (a0 + WL.length)), mk_changes])), (sk, .inr (9, [.ref b_y, sk_from, sk_firstDependency, sk_firstChange, sk_dependencies, sk_hashes, sk_byHash, sk_leansOn, sk_leantBy, sk_changes, sk_lines, sk_patches])), (b_y, .inl (cB, 290000, .inl (upd (upd (wrL bb a0 WL) (a0 + WL.length) ((v9 >>> (8 &&& 31) : Int32).toInt8.toInt32)) (a0 + WL.length + 1) ((v9 : Int32).toInt8.toInt32))))] H := hP
  have hD : va_D A [(h, .inr (5, [.ref sk, mk_named, mk_places, .int (nI (a0 + WL.length)), mk_changes])), (sk, .inr (9, [.ref b_y, sk_from, sk_firstDependency, sk_firstChange, sk_dependencies, sk_hashes, sk_byHash, sk_leansOn, sk_leantBy, sk_changes, sk_lines, sk_patches])), (b_y, .inl (cB, 290000, .inl (upd (upd (wrL bb a0 WL) (a0 + WL.length) ((v9 >>> (8 &&& 31) : Int32).toInt8.toInt32)) (a0 + WL.length + 1) ((v9 : Int32).toInt8.toInt32))))] := hD
  refine lv_aload_n hx hb d_Mk_putTwo_44 rfl (lv_at hl 0 rfl) ?_
  refine lv_dup hx hb d_Mk_putTwo_45 rfl ?_
  refine va_get (D := (dC, dI)) (ci := 5) (v := .int (nI (a0 + WL.length))) (C := R_Mk) (T := F_Mk) (N := 5) hx hb hts i_Mk hown hK hP 0 rfl rfl 3 (by decide) (hts _ gw_449) (fun _ h9 => h9) rfl d_Mk_putTwo_46 ?_
  refine lv_iconst (v := 2) hx hb d_Mk_putTwo_49 (by decide) ?_
  refine lv_iadd hx hb d_Mk_putTwo_50 ?_
  refine lv_topi (fun x_3 ex_3 => ?_)
  obtain rfl : x_3 = nI (a0 + WL.length + 2) := by rw [ex_3]; first | done | (exact nI_add _ _)
  refine va_put (D := (dC, dI)) (ci := 5) (v := .int (nI (a0 + WL.length + 2))) (ty := .int) (C := R_Mk) (T := F_Mk) (N := 5) hx hb hts i_Mk t_Mk t_Mk_ok n_Mk hown hK hP hD hS 0 rfl rfl 3 (by decide) (hts _ gw_449) (fun _ h9 => h9) rfl (by decide +kernel) rfl rfl (Nat.le_of_ble_eq_true rfl) d_Mk_putTwo_51 (fun H locs hP hD hS => ?_)
  have hP : va_P (dC, dI) classes [(h, .inr (5, [.ref sk, mk_named, mk_places, .int (nI (a0 + WL.length + 2)), mk_changes])), (sk, .inr (9, [.ref b_y, sk_from, sk_firstDependency, sk_firstChange, sk_dependencies, sk_hashes, sk_byHash, sk_leansOn, sk_leantBy, sk_changes, sk_lines, sk_patches])), (b_y, .inl (cB, 290000, .inl (upd (upd (wrL bb a0 WL) (a0 + WL.length) ((v9 >>> (8 &&& 31) : Int32).toInt8.toInt32)) (a0 + WL.length + 1) ((v9 : Int32).toInt8.toInt32))))] H := hP
  have hD : va_D A [(h, .inr (5, [.ref sk, mk_named, mk_places, .int (nI (a0 + WL.length + 2)), mk_changes])), (sk, .inr (9, [.ref b_y, sk_from, sk_firstDependency, sk_firstChange, sk_dependencies, sk_hashes, sk_byHash, sk_leansOn, sk_leantBy, sk_changes, sk_lines, sk_patches])), (b_y, .inl (cB, 290000, .inl (upd (upd (wrL bb a0 WL) (a0 + WL.length) ((v9 >>> (8 &&& 31) : Int32).toInt8.toInt32)) (a0 + WL.length + 1) ((v9 : Int32).toInt8.toInt32))))] := hD
  rw [show upd (upd (wrL bb a0 WL) (a0 + WL.length) ((v9 >>> (8 &&& 31) : Int32).toInt8.toInt32)) (a0 + WL.length + 1) ((v9 : Int32).toInt8.toInt32) = wrL bb a0 (WL ++ by2 v9) from wrL_two _ _ _ _, show nI (a0 + WL.length + 2) = nI (a0 + (WL ++ by2 v9).length) from congrArg nI (by rw [Nat.add_assoc, len2 WL v9])] at hP hD
  exact W.vret hx hb hr (fun t ht hW => ⟨⟨(), rfl, trivial, by rw [ht]; exact hP, va_K.moved hW.alike hK, hD⟩, hS.F ht⟩) hS.2.2 d_Mk_putTwo_54
set_option maxHeartbeats 4000000 in
set_option maxRecDepth 100000 in
/-- bytes are put -/
theorem m_Mk_putBytes (l : Launch) (dC : Nat → ClassId) (dI : Nat → Nat → Nat) (cI cB cL cZ cR : ClassId) (h sk b_y sr NS : Nat) (mk_named mk_places mk_changes sk_from sk_firstDependency sk_firstChange sk_dependencies sk_hashes sk_byHash sk_leansOn sk_leantBy sk_changes sk_lines sk_patches : Value) (bb gg : Nat → Int32) (a0 fr9 n9x : Nat) (WL : List Int32) (sz : Nat) (hb9 : a0 + WL.length + n9x ≤ 290000) (hNS : NS < 2147483648) (hfn : fr9 + n9x ≤ NS) (hgb : ∀ j, j < NS → by1 (gg j) = gg j) : Met l y_Mk_putBytes ws_Mk_putBytes ({ frames := 1, cells := 0, slots := 0, locals := 60 }) (xw_Pc dC dI [(cI, .int), (cB, .byte), (cL, .long), (cZ, .boolean), (cR, .object "PatchStore$Repository")] [.ref h, .ref sr, .int (nI fr9), .int (nI n9x)] [(h, .inr (5, [.ref sk, mk_named, mk_places, .int (nI (a0 + WL.length)), mk_changes])), (sk, .inr (9, [.ref b_y, sk_from, sk_firstDependency, sk_firstChange, sk_dependencies, sk_hashes, sk_byHash, sk_leansOn, sk_leantBy, sk_changes, sk_lines, sk_patches])), (b_y, .inl (cB, 290000, .inl (wrL bb a0 WL))), (sr, .inl (cB, NS, .inl gg))] sz) (va_Qv (fun _ : Unit => True) (fun _ t => xw_B dC dI [(cI, .int), (cB, .byte), (cL, .long), (cZ, .boolean), (cR, .object "PatchStore$Repository")] (va_A [(h, .inr (5, [.ref sk, mk_named, mk_places, .int (nI (a0 + WL.length)), mk_changes])), (sk, .inr (9, [.ref b_y, sk_from, sk_firstDependency, sk_firstChange, sk_dependencies, sk_hashes, sk_byHash, sk_leansOn, sk_leantBy, sk_changes, sk_lines, sk_patches])), (b_y, .inl (cB, 290000, .inl (wrL bb a0 WL))), (sr, .inl (cB, NS, .inl gg))] sz) [(h, .inr (5, [.ref sk, mk_named, mk_places, .int (nI (a0 + (WL ++ byL gg fr9 n9x).length)), mk_changes])), (sk, .inr (9, [.ref b_y, sk_from, sk_firstDependency, sk_firstChange, sk_dependencies, sk_hashes, sk_byHash, sk_leansOn, sk_leantBy, sk_changes, sk_lines, sk_patches])), (b_y, .inl (cB, 290000, .inl (wrL bb a0 (WL ++ byL gg fr9 n9x)))), (sr, .inl (cB, NS, .inl gg))] t) (va_A [(h, .inr (5, [.ref sk, mk_named, mk_places, .int (nI (a0 + WL.length)), mk_changes])), (sk, .inr (9, [.ref b_y, sk_from, sk_firstDependency, sk_firstChange, sk_dependencies, sk_hashes, sk_byHash, sk_leansOn, sk_leantBy, sk_changes, sk_lines, sk_patches])), (b_y, .inl (cB, 290000, .inl (wrL bb a0 WL))), (sr, .inl (cB, NS, .inl gg))] sz)) 0 0 (va_A [(h, .inr (5, [.ref sk, mk_named, mk_places, .int (nI (a0 + WL.length)), mk_changes])), (sk, .inr (9, [.ref b_y, sk_from, sk_firstDependency, sk_firstChange, sk_dependencies, sk_hashes, sk_byHash, sk_leansOn, sk_leantBy, sk_changes, sk_lines, sk_patches])), (b_y, .inl (cB, 290000, .inl (wrL bb a0 WL))), (sr, .inl (cB, NS, .inl gg))] sz) := by
  refine Met.ofW (cc := prog_6_method_15_code) (maxL := 5) (ret := none) (by decide) rfl ?_
  intro p e s m args below meth c s₁ B hml hv
  obtain ⟨rfl, hsz, hP, hK, hD0⟩ := hv
  have hx := B.exec
  have hb := B.bytes
  have hr := B.returns
  have hts0 := atoms_spec (ws := ws_Mk_putBytes) B.pre
  have hts : ∀ w ∈ xg_1, w.before _ s = true := fun w h => hts0 w (List.mem_cons_of_mem _ h)
  have hown : s.vm.findClass "PatchStore$Maker" = some m.cls := findClass_of_methodNamed B.named
  have hlocks := B.notSynchronized
  subst hsz
  have hD := hD0.self (sz := s.heap.size)
  generalize hAe : va_A [(h, .inr (5, [.ref sk, mk_named, mk_places, .int (nI (a0 + WL.length)), mk_changes])), (sk, .inr (9, [.ref b_y, sk_from, sk_firstDependency, sk_firstChange, sk_dependencies, sk_hashes, sk_byHash, sk_leansOn, sk_leantBy, sk_changes, sk_lines, sk_patches])), (b_y, .inl (cB, 290000, .inl (wrL bb a0 WL))), (sr, .inl (cB, NS, .inl gg))] s.heap.size = A at hD ⊢
  have hA : ∀ q : Nat, s.heap.size ≤ q → A q := fun q h => by rw [← hAe]; exact Or.inr h
  have hS : va_S A s.heap s.heap [] := va_S.rf
  have hl := lv_entry ([.ref h, .ref sr, .int (nI fr9), .int (nI n9x)]) (n := 5) (Nat.le_of_ble_eq_true rfl)
  rw [lg_entry_eq]
  generalize (lg_sl ([.ref h, .ref sr, .int (nI fr9), .int (nI n9x)]) ++ List.replicate (5 - (lg_sl ([.ref h, .ref sr, .int (nI fr9), .int (nI n9x)])).length) Slot.unset).toArray = ls at hl ⊢
  have hl : lv_has ls 5 [(0, .ref h), (1, .ref sr), (2, .int (nI fr9)), (3, .int (nI n9x))] := hl
  generalize hQe : MQ _ _ _ _ _ _ _ = Q
  refine lv_iconst (v := 0) hx hb d_Mk_putBytes_0 (by decide) ?_
  refine lv_istore (lv' := [(4, .int 0), (0, .ref h), (1, .ref sr), (2, .int (nI fr9)), (3, .int (nI n9x))]) hx hb d_Mk_putBytes_1 hl (by decide) rfl (fun ls hl => ?_)
  have e0 : wrL bb a0 WL = wrL bb a0 (WL ++ byL gg fr9 0) := by rw [show byL gg fr9 0 = [] from rfl, List.append_nil]
  have e1 : nI (a0 + WL.length) = nI (a0 + (WL ++ byL gg fr9 0).length) := by rw [show byL gg fr9 0 = [] from rfl, List.append_nil]
  rw [e0, e1] at hP hD
  have loop_3 : ∀ (n9 : Nat) (i : Nat) (H : Heap) (locs : List Loc) (ls : Array Slot), n9x - i < n9 → (i ≤ n9x) → va_P (dC, dI) classes [(h, .inr (5, [.ref sk, mk_named, mk_places, .int (nI (a0 + (WL ++ byL gg fr9 i).length)), mk_changes])), (sk, .inr (9, [.ref b_y, sk_from, sk_firstDependency, sk_firstChange, sk_dependencies, sk_hashes, sk_byHash, sk_leansOn, sk_leantBy, sk_changes, sk_lines, sk_patches])), (b_y, .inl (cB, 290000, .inl (wrL bb a0 (WL ++ byL gg fr9 i)))), (sr, .inl (cB, NS, .inl gg))] H → va_D A [(h, .inr (5, [.ref sk, mk_named, mk_places, .int (nI (a0 + (WL ++ byL gg fr9 i).length)), mk_changes])), (sk, .inr (9, [.ref b_y, sk_from, sk_firstDependency, sk_firstChange, sk_dependencies, sk_hashes, sk_byHash, sk_leansOn, sk_leantBy, sk_changes, sk_lines, sk_patches])), (b_y, .inl (cB, 290000, .inl (wrL bb a0 (WL ++ byL gg fr9 i)))), (sr, .inl (cB, NS, .inl gg))] → va_S A s.heap H locs → lv_has ls 5 [(0, .ref h), (1, .ref sr), (2, .int (nI fr9)), (3, .int (nI n9x)), (4, .int (nI i))] → W p l e (headSpec ws_Mk_putBytes ({ frames := 1, cells := 0, slots := 0, locals := 60 })).room s m ([.ref h, .ref sr, .int (nI fr9), .int (nI n9x)] : List Value).toArray below meth c H locs 0 0 Q (F0 m 3 ls []) := by
    intro n9
    induction n9 with
    | zero => intro i H locs ls hm; exact absurd hm (Nat.not_lt_zero _)
    | succ n9 ih_3 =>
      intro i H locs ls hm hi hP hD hS hl
      have hlen : (WL ++ byL gg fr9 i).length = WL.length + i := by rw [List.length_append, byL_len]
      refine lv_iload hx hb d_Mk_putBytes_3 (lv_at hl 4 rfl) ?_
      refine lv_iload_n hx hb d_Mk_putBytes_5 rfl (lv_at hl 3 rfl) ?_
      refine lv_icmp_ge (tgt := 25) hx hb d_Mk_putBytes_6 (by decide) (fun c_6 => ?_) (fun c_6 => ?_)
      · have n_6 : n9x ≤ i := (nI_leI (a := n9x) (b := i) (by omega) (by omega)).mp c_6
        rw [show i = n9x by omega] at hP hD
        rw [← hQe]
        exact W.vret hx hb hr (fun t ht hW => ⟨⟨(), rfl, trivial, by rw [ht]; exact hP, va_K.moved hW.alike hK, hD⟩, hS.F ht⟩) hS.2.2 d_Mk_putBytes_25
      · have n_6 : i < n9x := Nat.lt_of_not_le (fun z => c_6 ((nI_leI (a := n9x) (b := i) (by omega) (by omega)).mpr z))
        refine lv_aload_n hx hb d_Mk_putBytes_9 rfl (lv_at hl 0 rfl) ?_
        refine lv_aload_n hx hb d_Mk_putBytes_10 rfl (lv_at hl 1 rfl) ?_
        refine lv_iload_n hx hb d_Mk_putBytes_11 rfl (lv_at hl 2 rfl) ?_
        refine lv_iload hx hb d_Mk_putBytes_12 (lv_at hl 4 rfl) ?_
        refine lv_iadd hx hb d_Mk_putBytes_14 ?_
        refine lv_topi (fun x_1 ex_1 => ?_)
        obtain rfl : x_1 = nI (fr9 + i) := by rw [ex_1]; first | done | (exact nI_add _ _)
        refine va_bald hx hb hK hP 3 1 rfl rfl (vp_in_nI (by omega) (by omega)) d_Mk_putBytes_15 ?_
        rw [show (nI (fr9 + i)).toNatClampNeg = (fr9 + i) from nI_clamp (by omega)]
        have hPc := hP.sub (ws' := [(h, .inr (5, [.ref sk, mk_named, mk_places, .int (nI (a0 + (WL ++ byL gg fr9 i).length)), mk_changes])), (sk, .inr (9, [.ref b_y, sk_from, sk_firstDependency, sk_firstChange, sk_dependencies, sk_hashes, sk_byHash, sk_leansOn, sk_leantBy, sk_changes, sk_lines, sk_patches])), (b_y, .inl (cB, 290000, .inl (wrL bb a0 (WL ++ byL gg fr9 i))))]) [0, 1, 2] rfl
        have hDc := hD.sub (ws' := [(h, .inr (5, [.ref sk, mk_named, mk_places, .int (nI (a0 + (WL ++ byL gg fr9 i).length)), mk_changes])), (sk, .inr (9, [.ref b_y, sk_from, sk_firstDependency, sk_firstChange, sk_dependencies, sk_hashes, sk_byHash, sk_leansOn, sk_leantBy, sk_changes, sk_lines, sk_patches])), (b_y, .inl (cB, 290000, .inl (wrL bb a0 (WL ++ byL gg fr9 i))))]) [0, 1, 2] (by decide) rfl
        have hFc := va_free (wc := [(h, .inr (5, [.ref sk, mk_named, mk_places, .int (nI (a0 + (WL ++ byL gg fr9 i).length)), mk_changes])), (sk, .inr (9, [.ref b_y, sk_from, sk_firstDependency, sk_firstChange, sk_dependencies, sk_hashes, sk_byHash, sk_leansOn, sk_leantBy, sk_changes, sk_lines, sk_patches])), (b_y, .inl (cB, 290000, .inl (wrL bb a0 (WL ++ byL gg fr9 i))))]) hD hS hA [0, 1, 2] rfl
        refine va_callv (va_runV (As := [.int (gg (fr9 + i))]) (rest := []) ⟨hx, hb, hml, hown, hts⟩ (m_Mk_put l dC dI cI cB cL cZ cR h sk b_y (mk_named) (mk_places) (mk_changes) (sk_from) (sk_firstDependency) (sk_firstChange) (sk_dependencies) (sk_hashes) (sk_byHash) (sk_leansOn) (sk_leantBy) (sk_changes) (sk_lines) (sk_patches) bb a0 (WL ++ byL gg fr9 i) (gg (fr9 + i)) H.size (by omega)) (cwV 1 hts (xg_V gw_750 gw_752 (xg_p 4 (q := (⟨"PatchStore$Maker", "put", "(I)V"⟩, 5)) (by decide +kernel)) gw_10 gw_753) rfl rfl rfl (by decide +kernel) ⟨Nat.le_of_ble_eq_true rfl, Nat.le_of_ble_eq_true rfl⟩) ⟨xw_blind, va_recv hK hPc (ci := 5) (q0 := 0) rfl rfl, fun U hU hW => ⟨rfl, by rw [hU], by rw [hU]; exact hPc, va_K.moved hW.alike hK, hDc.weaken (fun _ _ _ _ => trivial)⟩⟩ rfl rfl hl.1 rfl (lv_room (Nat.le_of_ble_eq_true rfl)) d_Mk_putBytes_16 ⟨Nat.le_of_ble_eq_true rfl, Nat.le_of_ble_eq_true rfl⟩) hS (fun q _ h => hFc q h) hFc (fun u9 t H1 locs ht hvm hw hB hz1 hk1 hS => ?_)
        obtain ⟨hP1, hK1, hD1⟩ := hB
        rw [ht] at hP1
        obtain ⟨hP, hD⟩ := va_join (wr := [(sr, .inl (cB, NS, .inl gg))]) (w1 := [(h, .inr (5, [.ref sk, mk_named, mk_places, .int (nI (a0 + ((WL ++ byL gg fr9 i) ++ [by1 (gg (fr9 + i))]).length)), mk_changes])), (sk, .inr (9, [.ref b_y, sk_from, sk_firstDependency, sk_firstChange, sk_dependencies, sk_hashes, sk_byHash, sk_leansOn, sk_leantBy, sk_changes, sk_lines, sk_patches])), (b_y, .inl (cB, 290000, .inl (wrL bb a0 ((WL ++ byL gg fr9 i) ++ [by1 (gg (fr9 + i))]))))]) hP hD [0, 1, 2] [3] rfl rfl (by decide) (by decide) hk1 hFc hP1 hD1
        generalize H1 = H at hP hS ⊢
        have hP : va_P (dC, dI) classes [(sr, .inl (cB, NS, .inl gg)), (h, .inr (5, [.ref sk, mk_named, mk_places, .int (nI (a0 + ((WL ++ byL gg fr9 i) ++ [by1 (gg (fr9 + i))]).length)), mk_changes])), (sk, .inr (9, [.ref b_y, sk_from, sk_firstDependency, sk_firstChange, sk_dependencies, sk_hashes, sk_byHash, sk_leansOn, sk_leantBy, sk_changes, sk_lines, sk_patches])), (b_y, .inl (cB, 290000, .inl (wrL bb a0 ((WL ++ byL gg fr9 i) ++ [by1 (gg (fr9 + i))]))))] H := hP
        have hD : va_D A [(sr, .inl (cB, NS, .inl gg)), (h, .inr (5, [.ref sk, mk_named, mk_places, .int (nI (a0 + ((WL ++ byL gg fr9 i) ++ [by1 (gg (fr9 + i))]).length)), mk_changes])), (sk, .inr (9, [.ref b_y, sk_from, sk_firstDependency, sk_firstChange, sk_dependencies, sk_hashes, sk_byHash, sk_leansOn, sk_leantBy, sk_changes, sk_lines, sk_patches])), (b_y, .inl (cB, 290000, .inl (wrL bb a0 ((WL ++ byL gg fr9 i) ++ [by1 (gg (fr9 + i))]))))] := hD
        have e2 : ((WL ++ byL gg fr9 i) ++ [by1 (gg (fr9 + i))]) = (WL ++ byL gg fr9 (i + 1)) := by rw [show by1 (gg (fr9 + i)) = gg (fr9 + i) from hgb _ (by omega), List.append_assoc]; rfl
        rw [e2] at hP hD
        refine lv_iinc (v := nI (i + 1)) (lv' := [(4, .int (nI (i + 1))), (0, .ref h), (1, .ref sr), (2, .int (nI fr9)), (3, .int (nI n9x))]) hx hb d_Mk_putBytes_19 hl (k := 4) rfl (by exact nI_add _ _) (by decide) rfl (fun ls hl => ?_)
        refine lv_goto (tgt := 3) hx hb d_Mk_putBytes_22 (by decide) ?_
        exact ih_3 (i + 1) _ _ _ (by omega) (by omega) (hP.sub [1, 2, 3, 0] rfl) (hD.sub [1, 2, 3, 0] (by decide) rfl) hS (lv_sub hl [1, 2, 3, 4, 0] rfl)
  exact loop_3 _ 0 _ _ _ (Nat.lt_succ_self _) (Nat.zero_le _) hP hD hS (lv_sub hl [1, 2, 3, 4, 0] rfl)
