/-! 99u.find.lean.txt -/
theorem gw_1756 : (Jvm.Cond.methodLink "PatchStoreModel" (317 : Nat) ({ cls := "PatchStoreModel", name := "find", desc := "([BI)I" } : Jvm.MethodName)) ∈ xg_1 := xg_s8 76 rfl rfl
theorem gw_1758 : (Jvm.Cond.instanceMethod ({ cls := "PatchStoreModel", name := "find", desc := "([BI)I" } : Jvm.MethodName)) ∈ xg_1 := xg_s8 78 rfl rfl
theorem gw_1759 : (Jvm.Cond.code ({ cls := "PatchStoreModel", name := "find", desc := "([BI)I" } : Jvm.MethodName) prog_14_method_17_code (4 : Nat) (Option.some Jvm.ClassFile.FieldType.int)) ∈ xg_1 := xg_s8 79 rfl rfl
def y_Md_order1 : MethodName := ⟨"PatchStoreModel", "order", "(II)I"⟩
abbrev c_Md_order1 : Cond := (Jvm.Cond.code ({ cls := "PatchStoreModel", name := "order", desc := "(II)I" } : Jvm.MethodName) prog_14_method_9_code (3 : Nat) (Option.some Jvm.ClassFile.FieldType.int))
abbrev ws_Md_order1 : List Cond := c_Md_order1 :: xg_1
theorem d_Md_order1_0 : decode prog_14_method_9_code 0 = .ok (.aload_n 0, 1) := by decide +kernel
theorem d_Md_order1_1 : decode prog_14_method_9_code 1 = .ok (.getfield 45, 3) := by decide +kernel
theorem d_Md_order1_4 : decode prog_14_method_9_code 4 = .ok (.iload_n 1, 1) := by decide +kernel
theorem d_Md_order1_5 : decode prog_14_method_9_code 5 = .ok (.aaload, 1) := by decide +kernel
theorem d_Md_order1_6 : decode prog_14_method_9_code 6 = .ok (.iconst 0, 1) := by decide +kernel
theorem d_Md_order1_7 : decode prog_14_method_9_code 7 = .ok (.aload_n 0, 1) := by decide +kernel
theorem d_Md_order1_8 : decode prog_14_method_9_code 8 = .ok (.getfield 45, 3) := by decide +kernel
theorem d_Md_order1_11 : decode prog_14_method_9_code 11 = .ok (.iload_n 2, 1) := by decide +kernel
theorem d_Md_order1_12 : decode prog_14_method_9_code 12 = .ok (.aaload, 1) := by decide +kernel
theorem d_Md_order1_13 : decode prog_14_method_9_code 13 = .ok (.iconst 0, 1) := by decide +kernel
theorem d_Md_order1_14 : decode prog_14_method_9_code 14 = .ok (.bipush 32, 2) := by decide +kernel
theorem d_Md_order1_16 : decode prog_14_method_9_code 16 = .ok (.invokestatic 293, 3) := by decide +kernel
theorem d_Md_order1_19 : decode prog_14_method_9_code 19 = .ok (.ireturn, 1) := by decide +kernel
def y_Md_find : MethodName := ⟨"PatchStoreModel", "find", "([BI)I"⟩
abbrev c_Md_find : Cond := (Jvm.Cond.code ({ cls := "PatchStoreModel", name := "find", desc := "([BI)I" } : Jvm.MethodName) prog_14_method_17_code (4 : Nat) (Option.some Jvm.ClassFile.FieldType.int))
abbrev ws_Md_find : List Cond := c_Md_find :: xg_1
theorem d_Md_find_0 : decode prog_14_method_17_code 0 = .ok (.iconst 0, 1) := by decide +kernel
theorem d_Md_find_1 : decode prog_14_method_17_code 1 = .ok (.istore_n 3, 1) := by decide +kernel
theorem d_Md_find_2 : decode prog_14_method_17_code 2 = .ok (.iload_n 3, 1) := by decide +kernel
theorem d_Md_find_3 : decode prog_14_method_17_code 3 = .ok (.aload_n 0, 1) := by decide +kernel
theorem d_Md_find_4 : decode prog_14_method_17_code 4 = .ok (.getfield 52, 3) := by decide +kernel
theorem d_Md_find_7 : decode prog_14_method_17_code 7 = .ok (.if_icmp .ge 28, 3) := by decide +kernel
theorem d_Md_find_10 : decode prog_14_method_17_code 10 = .ok (.aload_n 0, 1) := by decide +kernel
theorem d_Md_find_11 : decode prog_14_method_17_code 11 = .ok (.getfield 45, 3) := by decide +kernel
theorem d_Md_find_14 : decode prog_14_method_17_code 14 = .ok (.iload_n 3, 1) := by decide +kernel
theorem d_Md_find_15 : decode prog_14_method_17_code 15 = .ok (.aaload, 1) := by decide +kernel
theorem d_Md_find_16 : decode prog_14_method_17_code 16 = .ok (.iconst 0, 1) := by decide +kernel
theorem d_Md_find_17 : decode prog_14_method_17_code 17 = .ok (.aload_n 1, 1) := by decide +kernel
theorem d_Md_find_18 : decode prog_14_method_17_code 18 = .ok (.iload_n 2, 1) := by decide +kernel
theorem d_Md_find_19 : decode prog_14_method_17_code 19 = .ok (.bipush 32, 2) := by decide +kernel
theorem d_Md_find_21 : decode prog_14_method_17_code 21 = .ok (.invokestatic 293, 3) := by decide +kernel
theorem d_Md_find_24 : decode prog_14_method_17_code 24 = .ok (.ifCond .ne 5, 3) := by decide +kernel
theorem d_Md_find_27 : decode prog_14_method_17_code 27 = .ok (.iload_n 3, 1) := by decide +kernel
theorem d_Md_find_28 : decode prog_14_method_17_code 28 = .ok (.ireturn, 1) := by decide +kernel
theorem d_Md_find_29 : decode prog_14_method_17_code 29 = .ok (.iinc 3 1, 3) := by decide +kernel
theorem d_Md_find_32 : decode prog_14_method_17_code 32 = .ok (.goto (-30), 3) := by decide +kernel
theorem d_Md_find_35 : decode prog_14_method_17_code 35 = .ok (.iconst (-1), 1) := by decide +kernel
theorem d_Md_find_36 : decode prog_14_method_17_code 36 = .ok (.ireturn, 1) := by decide +kernel
def y_Md_depends : MethodName := ⟨"PatchStoreModel", "depends", "(I)Z"⟩
abbrev c_Md_depends : Cond := (Jvm.Cond.code ({ cls := "PatchStoreModel", name := "depends", desc := "(I)Z" } : Jvm.MethodName) prog_14_method_18_code (4 : Nat) (Option.some Jvm.ClassFile.FieldType.boolean))
abbrev ws_Md_depends : List Cond := c_Md_depends :: xg_1
theorem d_Md_depends_0 : decode prog_14_method_18_code 0 = .ok (.aload_n 0, 1) := by decide +kernel
theorem d_Md_depends_1 : decode prog_14_method_18_code 1 = .ok (.iconst 0, 1) := by decide +kernel
theorem d_Md_depends_2 : decode prog_14_method_18_code 2 = .ok (.putfield 138, 3) := by decide +kernel
theorem d_Md_depends_5 : decode prog_14_method_18_code 5 = .ok (.aload_n 0, 1) := by decide +kernel
theorem d_Md_depends_6 : decode prog_14_method_18_code 6 = .ok (.aload_n 0, 1) := by decide +kernel
theorem d_Md_depends_7 : decode prog_14_method_18_code 7 = .ok (.iconst 2, 1) := by decide +kernel
theorem d_Md_depends_8 : decode prog_14_method_18_code 8 = .ok (.invokevirtual 301, 3) := by decide +kernel
theorem d_Md_depends_11 : decode prog_14_method_18_code 11 = .ok (.putfield 155, 3) := by decide +kernel
theorem d_Md_depends_14 : decode prog_14_method_18_code 14 = .ok (.iconst 0, 1) := by decide +kernel
theorem d_Md_depends_15 : decode prog_14_method_18_code 15 = .ok (.istore_n 2, 1) := by decide +kernel
theorem d_Md_depends_16 : decode prog_14_method_18_code 16 = .ok (.iload_n 2, 1) := by decide +kernel
theorem d_Md_depends_17 : decode prog_14_method_18_code 17 = .ok (.aload_n 0, 1) := by decide +kernel
theorem d_Md_depends_18 : decode prog_14_method_18_code 18 = .ok (.getfield 155, 3) := by decide +kernel
theorem d_Md_depends_21 : decode prog_14_method_18_code 21 = .ok (.if_icmp .ge 64, 3) := by decide +kernel
theorem d_Md_depends_24 : decode prog_14_method_18_code 24 = .ok (.aload_n 0, 1) := by decide +kernel
theorem d_Md_depends_25 : decode prog_14_method_18_code 25 = .ok (.aload_n 0, 1) := by decide +kernel
theorem d_Md_depends_26 : decode prog_14_method_18_code 26 = .ok (.getfield 135, 3) := by decide +kernel
theorem d_Md_depends_29 : decode prog_14_method_18_code 29 = .ok (.aload_n 0, 1) := by decide +kernel
theorem d_Md_depends_30 : decode prog_14_method_18_code 30 = .ok (.getfield 138, 3) := by decide +kernel
theorem d_Md_depends_33 : decode prog_14_method_18_code 33 = .ok (.invokevirtual 317, 3) := by decide +kernel
theorem d_Md_depends_36 : decode prog_14_method_18_code 36 = .ok (.istore_n 3, 1) := by decide +kernel
theorem d_Md_depends_37 : decode prog_14_method_18_code 37 = .ok (.aload_n 0, 1) := by decide +kernel
theorem d_Md_depends_38 : decode prog_14_method_18_code 38 = .ok (.dup, 1) := by decide +kernel
theorem d_Md_depends_39 : decode prog_14_method_18_code 39 = .ok (.getfield 138, 3) := by decide +kernel
theorem d_Md_depends_42 : decode prog_14_method_18_code 42 = .ok (.bipush 32, 2) := by decide +kernel
theorem d_Md_depends_44 : decode prog_14_method_18_code 44 = .ok (.iadd, 1) := by decide +kernel
theorem d_Md_depends_45 : decode prog_14_method_18_code 45 = .ok (.putfield 138, 3) := by decide +kernel
theorem d_Md_depends_48 : decode prog_14_method_18_code 48 = .ok (.iload_n 3, 1) := by decide +kernel
theorem d_Md_depends_49 : decode prog_14_method_18_code 49 = .ok (.ifCond .lt 14, 3) := by decide +kernel
theorem d_Md_depends_52 : decode prog_14_method_18_code 52 = .ok (.aload_n 0, 1) := by decide +kernel
theorem d_Md_depends_53 : decode prog_14_method_18_code 53 = .ok (.getfield 122, 3) := by decide +kernel
theorem d_Md_depends_56 : decode prog_14_method_18_code 56 = .ok (.iload_n 1, 1) := by decide +kernel
theorem d_Md_depends_57 : decode prog_14_method_18_code 57 = .ok (.aaload, 1) := by decide +kernel
theorem d_Md_depends_58 : decode prog_14_method_18_code 58 = .ok (.iload_n 3, 1) := by decide +kernel
theorem d_Md_depends_59 : decode prog_14_method_18_code 59 = .ok (.baload, 1) := by decide +kernel
theorem d_Md_depends_60 : decode prog_14_method_18_code 60 = .ok (.ifCond .ne 5, 3) := by decide +kernel
theorem d_Md_depends_63 : decode prog_14_method_18_code 63 = .ok (.iconst 0, 1) := by decide +kernel
theorem d_Md_depends_64 : decode prog_14_method_18_code 64 = .ok (.ireturn, 1) := by decide +kernel
theorem d_Md_depends_65 : decode prog_14_method_18_code 65 = .ok (.aload_n 0, 1) := by decide +kernel
theorem d_Md_depends_66 : decode prog_14_method_18_code 66 = .ok (.getfield 148, 3) := by decide +kernel
theorem d_Md_depends_69 : decode prog_14_method_18_code 69 = .ok (.iload_n 2, 1) := by decide +kernel
theorem d_Md_depends_70 : decode prog_14_method_18_code 70 = .ok (.iload_n 3, 1) := by decide +kernel
theorem d_Md_depends_71 : decode prog_14_method_18_code 71 = .ok (.iastore, 1) := by decide +kernel
theorem d_Md_depends_72 : decode prog_14_method_18_code 72 = .ok (.aload_n 0, 1) := by decide +kernel
theorem d_Md_depends_73 : decode prog_14_method_18_code 73 = .ok (.getfield 151, 3) := by decide +kernel
theorem d_Md_depends_76 : decode prog_14_method_18_code 76 = .ok (.iload_n 2, 1) := by decide +kernel
theorem d_Md_depends_77 : decode prog_14_method_18_code 77 = .ok (.iconst 0, 1) := by decide +kernel
theorem d_Md_depends_78 : decode prog_14_method_18_code 78 = .ok (.bastore, 1) := by decide +kernel
theorem d_Md_depends_79 : decode prog_14_method_18_code 79 = .ok (.iinc 2 1, 3) := by decide +kernel
theorem d_Md_depends_82 : decode prog_14_method_18_code 82 = .ok (.goto (-66), 3) := by decide +kernel
theorem d_Md_depends_85 : decode prog_14_method_18_code 85 = .ok (.iconst 1, 1) := by decide +kernel
theorem d_Md_depends_86 : decode prog_14_method_18_code 86 = .ok (.ireturn, 1) := by decide +kernel
/-- the hash of the reference's patch q is that at j of g -/
def fdR (H : Nat → Nat → Int32) (P : Nat) (g : Nat → Int32) (j q : Nat) : Prop := q < P ∧ sq (H q) 0 32 = sq g j 32
set_option maxHeartbeats 4000000 in
set_option maxRecDepth 100000 in
/-- bytes compared -/
theorem m_Md_ordHH (l : Launch) (dC : Nat → ClassId) (dI : Nat → Nat → Nat) (cI cB cL cZ cR cBB cZZ cII : ClassId) (G : Gr) (p9 q9 i j nn : Nat) (sz : Nat) (hp9 : p9 < G.n) (hq9 : q9 < G.n) (h1 : i + nn ≤ 32) (h2 : j + nn ≤ 32) : Met l y_Md_order0 ws_Md_order0 ({ frames := 0, cells := 0, slots := 0, locals := 0 }) (xw_Pc dC dI [(cI, .int), (cB, .byte), (cL, .long), (cZ, .boolean), (cR, .object "PatchStore$Repository"), (cBB, .array .byte), (cZZ, .array .boolean), (cII, .array .int)] [.ref (G.ah p9), .int (nI i), .ref (G.ah q9), .int (nI j), .int (nI nn)] ([] ++ gdA cI cB cZ G) sz) (va_Qi (fun (r : Int32) (_ : Unit) => r = bo (G.H p9) (G.H q9) i j nn) (fun _ t => xw_B dC dI [(cI, .int), (cB, .byte), (cL, .long), (cZ, .boolean), (cR, .object "PatchStore$Repository"), (cBB, .array .byte), (cZZ, .array .boolean), (cII, .array .int)] (va_A ([] ++ gdA cI cB cZ G) sz) ([] ++ gdA cI cB cZ G) t) (va_A ([] ++ gdA cI cB cZ G) sz)) 0 0 (va_A ([] ++ gdA cI cB cZ G) sz) := by
  refine Met.ofW (cc := prog_14_method_8_code) (maxL := 7) (ret := (Option.some Jvm.ClassFile.FieldType.int)) (by decide) rfl ?_
  intro p e s m args below meth c s₁ B hml hv
  obtain ⟨rfl, hsz, hP, hK, hD0⟩ := hv
  have hx := B.exec
  have hb := B.bytes
  have hr := B.returns
  have hts0 := atoms_spec (ws := ws_Md_order0) B.pre
  have hts : ∀ w ∈ xg_1, w.before _ s = true := fun w h => hts0 w (List.mem_cons_of_mem _ h)
  have hown : s.vm.findClass "PatchStoreModel" = some m.cls := findClass_of_methodNamed B.named
  have hlocks := B.notSynchronized
  subst hsz
  have hD := hD0.self (sz := s.heap.size)
  generalize hAe : va_A ([] ++ gdA cI cB cZ G) s.heap.size = A at hD ⊢
  have hA : ∀ q : Nat, s.heap.size ≤ q → A q := fun q h => by rw [← hAe]; exact Or.inr h
  have hS : va_S A s.heap s.heap [] := va_S.rf
  have hl := lv_entry ([.ref (G.ah p9), .int (nI i), .ref (G.ah q9), .int (nI j), .int (nI nn)]) (n := 7) (Nat.le_of_ble_eq_true rfl)
  rw [lg_entry_eq]
  generalize (lg_sl ([.ref (G.ah p9), .int (nI i), .ref (G.ah q9), .int (nI j), .int (nI nn)]) ++ List.replicate (7 - (lg_sl ([.ref (G.ah p9), .int (nI i), .ref (G.ah q9), .int (nI j), .int (nI nn)])).length) Slot.unset).toArray = ls at hl ⊢
  have hl : lv_has ls 7 [(0, .ref (G.ah p9)), (1, .int (nI i)), (2, .ref (G.ah q9)), (3, .int (nI j)), (4, .int (nI nn))] := hl
  generalize hQe : MQ _ _ _ _ _ _ _ = Q
  refine lv_iconst (v := 0) hx hb d_Md_order0_0 (by decide) ?_
  refine lv_istore (lv' := [(5, .int 0), (0, .ref (G.ah p9)), (1, .int (nI i)), (2, .ref (G.ah q9)), (3, .int (nI j)), (4, .int (nI nn))]) hx hb d_Md_order0_1 hl (by decide) rfl (fun ls hl => ?_)
  have loop_3 : ∀ (n9 : Nat) (k : Nat) (H : Heap) (locs : List Loc) (ls : Array Slot), nn - k < n9 → (k ≤ nn) → (bo (G.H p9) (G.H q9) (i + k) (j + k) (nn - k) = bo (G.H p9) (G.H q9) i j nn) → va_P (dC, dI) classes ([] ++ gdA cI cB cZ G) H → va_D A ([] ++ gdA cI cB cZ G) → va_S A s.heap H locs → lv_has ls 7 [(0, .ref (G.ah p9)), (1, .int (nI i)), (2, .ref (G.ah q9)), (3, .int (nI j)), (4, .int (nI nn)), (5, .int (nI k))] → W p l e (headSpec ws_Md_order0 ({ frames := 0, cells := 0, slots := 0, locals := 0 })).room s m ([.ref (G.ah p9), .int (nI i), .ref (G.ah q9), .int (nI j), .int (nI nn)] : List Value).toArray below meth c H locs 0 0 Q (F0 m 3 ls []) := by
    intro n9
    induction n9 with
    | zero => intro k H locs ls hm; exact absurd hm (Nat.not_lt_zero _)
    | succ n9 ih_3 =>
      intro k H locs ls hm hk hi hP hD hS hl
      refine lv_iload hx hb d_Md_order0_3 (lv_at hl 5 rfl) ?_
      refine lv_iload hx hb d_Md_order0_5 (lv_at hl 4 rfl) ?_
      refine lv_icmp_ge (tgt := 47) hx hb d_Md_order0_7 (by decide) (fun c_7 => ?_) (fun c_7 => ?_)
      · have n_7 : nn ≤ k := (nI_leI (a := nn) (b := k) (by omega) (by omega)).mp c_7
        refine lv_iconst (v := 0) hx hb d_Md_order0_47 (by decide) ?_
        rw [← hQe]
        exact W.iret (v := 0) hx hb hr (fun t ht hW => ⟨⟨_, (), rfl, by rw [← hi, show nn - k = 0 by omega]; rfl, by rw [ht]; exact hP, va_K.moved hW.alike hK, hD⟩, hS.F ht⟩) hS.2.2 d_Md_order0_48
      · have n_7 : k < nn := Nat.lt_of_not_le (fun z => c_7 ((nI_leI (a := nn) (b := k) (by omega) (by omega)).mpr z))
        refine lv_aload_n hx hb d_Md_order0_10 rfl (lv_at hl 0 rfl) ?_
        refine lv_iload_n hx hb d_Md_order0_11 rfl (lv_at hl 1 rfl) ?_
        refine lv_iload hx hb d_Md_order0_12 (lv_at hl 5 rfl) ?_
        refine lv_iadd hx hb d_Md_order0_14 ?_
        refine lv_topi (fun x_1 ex_1 => ?_)
        obtain rfl : x_1 = nI (i + k) := by rw [ex_1]; first | done | (exact nI_add _ _)
        refine va_bald hx hb hK hP (0 + (1002 + p9)) 1 (gA_H rfl (by omega)) rfl (vp_in_nI (by omega) (by omega)) d_Md_order0_15 ?_
        rw [show (nI (i + k)).toNatClampNeg = (i + k) from nI_clamp (by omega)]
        refine lv_sipush (v := 255) hx hb d_Md_order0_16 (by decide) ?_
        refine lv_iand hx hb d_Md_order0_19 ?_
        refine lv_topi (fun x_2 ex_2 => ?_)
        obtain rfl : x_2 = nI (b8 (G.H p9 (i + k))) := by rw [ex_2]; first | done | (exact b8_eq _)
        refine lv_aload_n hx hb d_Md_order0_20 rfl (lv_at hl 2 rfl) ?_
        refine lv_iload_n hx hb d_Md_order0_21 rfl (lv_at hl 3 rfl) ?_
        refine lv_iload hx hb d_Md_order0_22 (lv_at hl 5 rfl) ?_
        refine lv_iadd hx hb d_Md_order0_24 ?_
        refine lv_topi (fun x_3 ex_3 => ?_)
        obtain rfl : x_3 = nI (j + k) := by rw [ex_3]; first | done | (exact nI_add _ _)
        refine va_bald hx hb hK hP (0 + (1002 + q9)) 1 (gA_H rfl (by omega)) rfl (vp_in_nI (by omega) (by omega)) d_Md_order0_25 ?_
        rw [show (nI (j + k)).toNatClampNeg = (j + k) from nI_clamp (by omega)]
        refine lv_sipush (v := 255) hx hb d_Md_order0_26 (by decide) ?_
        refine lv_iand hx hb d_Md_order0_29 ?_
        refine lv_topi (fun x_4 ex_4 => ?_)
        obtain rfl : x_4 = nI (b8 (G.H q9 (j + k))) := by rw [ex_4]; first | done | (exact b8_eq _)
        refine lv_isub hx hb d_Md_order0_30 ?_
        refine lv_istore (lv' := [(6, .int ((nI (b8 (G.H p9 (i + k)))) - (nI (b8 (G.H q9 (j + k)))))), (0, .ref (G.ah p9)), (1, .int (nI i)), (2, .ref (G.ah q9)), (3, .int (nI j)), (4, .int (nI nn)), (5, .int (nI k))]) hx hb d_Md_order0_31 hl (by decide) rfl (fun ls hl => ?_)
        refine lv_iload hx hb d_Md_order0_33 (lv_at hl 0 rfl) ?_
        refine lv_if_eq (tgt := 41) hx hb d_Md_order0_35 (by decide) (fun c_35 => ?_) (fun c_35 => ?_)
        · refine lv_iinc (v := nI (k + 1)) (lv' := [(5, .int (nI (k + 1))), (6, .int ((nI (b8 (G.H p9 (i + k)))) - (nI (b8 (G.H q9 (j + k)))))), (0, .ref (G.ah p9)), (1, .int (nI i)), (2, .ref (G.ah q9)), (3, .int (nI j)), (4, .int (nI nn))]) hx hb d_Md_order0_41 hl (k := 6) rfl (by exact nI_add _ _) (by decide) rfl (fun ls hl => ?_)
          refine lv_goto (tgt := 3) hx hb d_Md_order0_44 (by decide) ?_
          exact ih_3 (k + 1) _ _ _ (by omega) (by omega) (by rw [← hi, show nn - k = (nn - (k + 1)) + 1 by omega, bo_s, if_pos c_35]; rfl) hP hD hS (lv_sub hl [2, 3, 4, 5, 6, 0] rfl)
        · refine lv_iload hx hb d_Md_order0_38 (lv_at hl 0 rfl) ?_
          rw [← hQe]
          exact W.iret (v := (nI (b8 (G.H p9 (i + k)))) - (nI (b8 (G.H q9 (j + k))))) hx hb hr (fun t ht hW => ⟨⟨_, (), rfl, by rw [← hi, show nn - k = (nn - k - 1) + 1 by omega, bo_s, if_neg c_35], by rw [ht]; exact hP, va_K.moved hW.alike hK, hD⟩, hS.F ht⟩) hS.2.2 d_Md_order0_40
  exact loop_3 _ 0 _ _ _ (Nat.lt_succ_self _) (Nat.zero_le _) (rfl) hP hD hS (lv_sub hl [1, 2, 3, 4, 5, 0] rfl)
set_option maxHeartbeats 4000000 in
set_option maxRecDepth 100000 in
/-- bytes compared -/
theorem m_Md_ordHX (l : Launch) (dC : Nat → ClassId) (dI : Nat → Nat → Nat) (cI cB cL cZ cR cBB cZZ cII : ClassId) (xa NX : Nat) (gx : Nat → Int32) (G : Gr) (p9 i j nn : Nat) (sz : Nat) (hp9 : p9 < G.n) (h1 : i + nn ≤ 32) (hNX : NX < 2147483648) (h2 : j + nn ≤ NX) : Met l y_Md_order0 ws_Md_order0 ({ frames := 0, cells := 0, slots := 0, locals := 0 }) (xw_Pc dC dI [(cI, .int), (cB, .byte), (cL, .long), (cZ, .boolean), (cR, .object "PatchStore$Repository"), (cBB, .array .byte), (cZZ, .array .boolean), (cII, .array .int)] [.ref (G.ah p9), .int (nI i), .ref xa, .int (nI j), .int (nI nn)] ([(xa, .inl (cB, NX, .inl gx))] ++ gdA cI cB cZ G) sz) (va_Qi (fun (r : Int32) (_ : Unit) => r = bo (G.H p9) gx i j nn) (fun _ t => xw_B dC dI [(cI, .int), (cB, .byte), (cL, .long), (cZ, .boolean), (cR, .object "PatchStore$Repository"), (cBB, .array .byte), (cZZ, .array .boolean), (cII, .array .int)] (va_A ([(xa, .inl (cB, NX, .inl gx))] ++ gdA cI cB cZ G) sz) ([(xa, .inl (cB, NX, .inl gx))] ++ gdA cI cB cZ G) t) (va_A ([(xa, .inl (cB, NX, .inl gx))] ++ gdA cI cB cZ G) sz)) 0 0 (va_A ([(xa, .inl (cB, NX, .inl gx))] ++ gdA cI cB cZ G) sz) := by
  refine Met.ofW (cc := prog_14_method_8_code) (maxL := 7) (ret := (Option.some Jvm.ClassFile.FieldType.int)) (by decide) rfl ?_
  intro p e s m args below meth c s₁ B hml hv
  obtain ⟨rfl, hsz, hP, hK, hD0⟩ := hv
  have hx := B.exec
  have hb := B.bytes
  have hr := B.returns
  have hts0 := atoms_spec (ws := ws_Md_order0) B.pre
  have hts : ∀ w ∈ xg_1, w.before _ s = true := fun w h => hts0 w (List.mem_cons_of_mem _ h)
  have hown : s.vm.findClass "PatchStoreModel" = some m.cls := findClass_of_methodNamed B.named
  have hlocks := B.notSynchronized
  subst hsz
  have hD := hD0.self (sz := s.heap.size)
  generalize hAe : va_A ([(xa, .inl (cB, NX, .inl gx))] ++ gdA cI cB cZ G) s.heap.size = A at hD ⊢
  have hA : ∀ q : Nat, s.heap.size ≤ q → A q := fun q h => by rw [← hAe]; exact Or.inr h
  have hS : va_S A s.heap s.heap [] := va_S.rf
  have hl := lv_entry ([.ref (G.ah p9), .int (nI i), .ref xa, .int (nI j), .int (nI nn)]) (n := 7) (Nat.le_of_ble_eq_true rfl)
  rw [lg_entry_eq]
  generalize (lg_sl ([.ref (G.ah p9), .int (nI i), .ref xa, .int (nI j), .int (nI nn)]) ++ List.replicate (7 - (lg_sl ([.ref (G.ah p9), .int (nI i), .ref xa, .int (nI j), .int (nI nn)])).length) Slot.unset).toArray = ls at hl ⊢
  have hl : lv_has ls 7 [(0, .ref (G.ah p9)), (1, .int (nI i)), (2, .ref xa), (3, .int (nI j)), (4, .int (nI nn))] := hl
  generalize hQe : MQ _ _ _ _ _ _ _ = Q
  refine lv_iconst (v := 0) hx hb d_Md_order0_0 (by decide) ?_
  refine lv_istore (lv' := [(5, .int 0), (0, .ref (G.ah p9)), (1, .int (nI i)), (2, .ref xa), (3, .int (nI j)), (4, .int (nI nn))]) hx hb d_Md_order0_1 hl (by decide) rfl (fun ls hl => ?_)
  have loop_3 : ∀ (n9 : Nat) (k : Nat) (H : Heap) (locs : List Loc) (ls : Array Slot), nn - k < n9 → (k ≤ nn) → (bo (G.H p9) gx (i + k) (j + k) (nn - k) = bo (G.H p9) gx i j nn) → va_P (dC, dI) classes ([(xa, .inl (cB, NX, .inl gx))] ++ gdA cI cB cZ G) H → va_D A ([(xa, .inl (cB, NX, .inl gx))] ++ gdA cI cB cZ G) → va_S A s.heap H locs → lv_has ls 7 [(0, .ref (G.ah p9)), (1, .int (nI i)), (2, .ref xa), (3, .int (nI j)), (4, .int (nI nn)), (5, .int (nI k))] → W p l e (headSpec ws_Md_order0 ({ frames := 0, cells := 0, slots := 0, locals := 0 })).room s m ([.ref (G.ah p9), .int (nI i), .ref xa, .int (nI j), .int (nI nn)] : List Value).toArray below meth c H locs 0 0 Q (F0 m 3 ls []) := by
    intro n9
    induction n9 with
    | zero => intro k H locs ls hm; exact absurd hm (Nat.not_lt_zero _)
    | succ n9 ih_3 =>
      intro k H locs ls hm hk hi hP hD hS hl
      refine lv_iload hx hb d_Md_order0_3 (lv_at hl 5 rfl) ?_
      refine lv_iload hx hb d_Md_order0_5 (lv_at hl 4 rfl) ?_
      refine lv_icmp_ge (tgt := 47) hx hb d_Md_order0_7 (by decide) (fun c_7 => ?_) (fun c_7 => ?_)
      · have n_7 : nn ≤ k := (nI_leI (a := nn) (b := k) (by omega) (by omega)).mp c_7
        refine lv_iconst (v := 0) hx hb d_Md_order0_47 (by decide) ?_
        rw [← hQe]
        exact W.iret (v := 0) hx hb hr (fun t ht hW => ⟨⟨_, (), rfl, by rw [← hi, show nn - k = 0 by omega]; rfl, by rw [ht]; exact hP, va_K.moved hW.alike hK, hD⟩, hS.F ht⟩) hS.2.2 d_Md_order0_48
      · have n_7 : k < nn := Nat.lt_of_not_le (fun z => c_7 ((nI_leI (a := nn) (b := k) (by omega) (by omega)).mpr z))
        refine lv_aload_n hx hb d_Md_order0_10 rfl (lv_at hl 0 rfl) ?_
        refine lv_iload_n hx hb d_Md_order0_11 rfl (lv_at hl 1 rfl) ?_
        refine lv_iload hx hb d_Md_order0_12 (lv_at hl 5 rfl) ?_
        refine lv_iadd hx hb d_Md_order0_14 ?_
        refine lv_topi (fun x_1 ex_1 => ?_)
        obtain rfl : x_1 = nI (i + k) := by rw [ex_1]; first | done | (exact nI_add _ _)
        refine va_bald hx hb hK hP (1 + (1002 + p9)) 1 (gA_H rfl (by omega)) rfl (vp_in_nI (by omega) (by omega)) d_Md_order0_15 ?_
        rw [show (nI (i + k)).toNatClampNeg = (i + k) from nI_clamp (by omega)]
        refine lv_sipush (v := 255) hx hb d_Md_order0_16 (by decide) ?_
        refine lv_iand hx hb d_Md_order0_19 ?_
        refine lv_topi (fun x_2 ex_2 => ?_)
        obtain rfl : x_2 = nI (b8 (G.H p9 (i + k))) := by rw [ex_2]; first | done | (exact b8_eq _)
        refine lv_aload_n hx hb d_Md_order0_20 rfl (lv_at hl 2 rfl) ?_
        refine lv_iload_n hx hb d_Md_order0_21 rfl (lv_at hl 3 rfl) ?_
        refine lv_iload hx hb d_Md_order0_22 (lv_at hl 5 rfl) ?_
        refine lv_iadd hx hb d_Md_order0_24 ?_
        refine lv_topi (fun x_3 ex_3 => ?_)
        obtain rfl : x_3 = nI (j + k) := by rw [ex_3]; first | done | (exact nI_add _ _)
        refine va_bald hx hb hK hP 0 1 rfl rfl (vp_in_nI (by omega) (by omega)) d_Md_order0_25 ?_
        rw [show (nI (j + k)).toNatClampNeg = (j + k) from nI_clamp (by omega)]
        refine lv_sipush (v := 255) hx hb d_Md_order0_26 (by decide) ?_
        refine lv_iand hx hb d_Md_order0_29 ?_
        refine lv_topi (fun x_4 ex_4 => ?_)
        obtain rfl : x_4 = nI (b8 (gx (j + k))) := by rw [ex_4]; first | done | (exact b8_eq _)
        refine lv_isub hx hb d_Md_order0_30 ?_
        refine lv_istore (lv' := [(6, .int ((nI (b8 (G.H p9 (i + k)))) - (nI (b8 (gx (j + k)))))), (0, .ref (G.ah p9)), (1, .int (nI i)), (2, .ref xa), (3, .int (nI j)), (4, .int (nI nn)), (5, .int (nI k))]) hx hb d_Md_order0_31 hl (by decide) rfl (fun ls hl => ?_)
        refine lv_iload hx hb d_Md_order0_33 (lv_at hl 0 rfl) ?_
        refine lv_if_eq (tgt := 41) hx hb d_Md_order0_35 (by decide) (fun c_35 => ?_) (fun c_35 => ?_)
        · refine lv_iinc (v := nI (k + 1)) (lv' := [(5, .int (nI (k + 1))), (6, .int ((nI (b8 (G.H p9 (i + k)))) - (nI (b8 (gx (j + k)))))), (0, .ref (G.ah p9)), (1, .int (nI i)), (2, .ref xa), (3, .int (nI j)), (4, .int (nI nn))]) hx hb d_Md_order0_41 hl (k := 6) rfl (by exact nI_add _ _) (by decide) rfl (fun ls hl => ?_)
          refine lv_goto (tgt := 3) hx hb d_Md_order0_44 (by decide) ?_
          exact ih_3 (k + 1) _ _ _ (by omega) (by omega) (by rw [← hi, show nn - k = (nn - (k + 1)) + 1 by omega, bo_s, if_pos c_35]; rfl) hP hD hS (lv_sub hl [2, 3, 4, 5, 6, 0] rfl)
        · refine lv_iload hx hb d_Md_order0_38 (lv_at hl 0 rfl) ?_
          rw [← hQe]
          exact W.iret (v := (nI (b8 (G.H p9 (i + k)))) - (nI (b8 (gx (j + k))))) hx hb hr (fun t ht hW => ⟨⟨_, (), rfl, by rw [← hi, show nn - k = (nn - k - 1) + 1 by omega, bo_s, if_neg c_35], by rw [ht]; exact hP, va_K.moved hW.alike hK, hD⟩, hS.F ht⟩) hS.2.2 d_Md_order0_40
  exact loop_3 _ 0 _ _ _ (Nat.lt_succ_self _) (Nat.zero_le _) (rfl) hP hD hS (lv_sub hl [1, 2, 3, 4, 5, 0] rfl)
set_option maxHeartbeats 4000000 in
set_option maxRecDepth 100000 in
/-- the order of two patches -/
theorem m_Md_order (l : Launch) (dC : Nat → ClassId) (dI : Nat → Nat → Nat) (cI cB cL cZ cR cBB cZZ cII : ClassId) (md hsA : Nat) (md_tape md_size md_thrown md_fault md_bytes md_used md_at md_length md_depAt md_firstChange md_deps md_patches md_sort md_of md_fileOf md_one md_two md_nameAt md_nameSize md_overAt md_overCount md_lineAt md_lineCount md_changes md_overs md_overTotal md_lineChange md_textAt md_textSize md_lines md_fileChange md_fileLines md_files md_sets md_stamp md_digest md_in md_pos md_stop md_wrong md_dep md_named md_depCount md_own md_refFile md_full md_h md_counts md_marked md_namings md_namingCount md_listed md_listedCount md_listedStamp md_member md_text md_place md_dead md_edge md_way md_members md_textLines md_unsure md_workedRepository md_workedFile md_workedStamp md_stack md_before md_left md_made md_madeSize md_need md_needs md_newAt md_newSize md_news md_common md_keptAs md_isNew md_keptFrom md_stateOf md_rising : Value) (gh : Nat → Option Nat) (G : Gr) (P9 p9 q9 : Nat) (sz : Nat) (hGn : G.n = P9) (hP9 : P9 ≤ 500) (hgh : ∀ i, i < P9 → gh i = some (G.ah i)) (hp9 : p9 < P9) (hq9 : q9 < P9) : Met l y_Md_order1 ws_Md_order1 ({ frames := 1, cells := 0, slots := 0, locals := 60 }) (xw_Pc dC dI [(cI, .int), (cB, .byte), (cL, .long), (cZ, .boolean), (cR, .object "PatchStore$Repository"), (cBB, .array .byte), (cZZ, .array .boolean), (cII, .array .int)] [.ref md, .int (nI p9), .int (nI q9)] ([(md, .inr (12, [md_tape, md_size, md_thrown, md_fault, md_bytes, md_used, md_at, md_length, md_depAt, md_firstChange, .ref hsA, md_deps, md_patches, md_sort, md_of, md_fileOf, md_one, md_two, md_nameAt, md_nameSize, md_overAt, md_overCount, md_lineAt, md_lineCount, md_changes, md_overs, md_overTotal, md_lineChange, md_textAt, md_textSize, md_lines, md_fileChange, md_fileLines, md_files, md_sets, md_stamp, md_digest, md_in, md_pos, md_stop, md_wrong, md_dep, md_named, md_depCount, md_own, md_refFile, md_full, md_h, md_counts, md_marked, md_namings, md_namingCount, md_listed, md_listedCount, md_listedStamp, md_member, md_text, md_place, md_dead, md_edge, md_way, md_members, md_textLines, md_unsure, md_workedRepository, md_workedFile, md_workedStamp, md_stack, md_before, md_left, md_made, md_madeSize, md_need, md_needs, md_newAt, md_newSize, md_news, md_common, md_keptAs, md_isNew, md_keptFrom, md_stateOf, md_rising])), (hsA, .inl (cBB, 500, .inr (.inr (.inr (.inr gh)))))] ++ gdA cI cB cZ G) sz) (va_Qi (fun (r : Int32) (_ : Unit) => r = bo (G.H p9) (G.H q9) 0 0 32) (fun _ t => xw_B dC dI [(cI, .int), (cB, .byte), (cL, .long), (cZ, .boolean), (cR, .object "PatchStore$Repository"), (cBB, .array .byte), (cZZ, .array .boolean), (cII, .array .int)] (va_A ([(md, .inr (12, [md_tape, md_size, md_thrown, md_fault, md_bytes, md_used, md_at, md_length, md_depAt, md_firstChange, .ref hsA, md_deps, md_patches, md_sort, md_of, md_fileOf, md_one, md_two, md_nameAt, md_nameSize, md_overAt, md_overCount, md_lineAt, md_lineCount, md_changes, md_overs, md_overTotal, md_lineChange, md_textAt, md_textSize, md_lines, md_fileChange, md_fileLines, md_files, md_sets, md_stamp, md_digest, md_in, md_pos, md_stop, md_wrong, md_dep, md_named, md_depCount, md_own, md_refFile, md_full, md_h, md_counts, md_marked, md_namings, md_namingCount, md_listed, md_listedCount, md_listedStamp, md_member, md_text, md_place, md_dead, md_edge, md_way, md_members, md_textLines, md_unsure, md_workedRepository, md_workedFile, md_workedStamp, md_stack, md_before, md_left, md_made, md_madeSize, md_need, md_needs, md_newAt, md_newSize, md_news, md_common, md_keptAs, md_isNew, md_keptFrom, md_stateOf, md_rising])), (hsA, .inl (cBB, 500, .inr (.inr (.inr (.inr gh)))))] ++ gdA cI cB cZ G) sz) ([(md, .inr (12, [md_tape, md_size, md_thrown, md_fault, md_bytes, md_used, md_at, md_length, md_depAt, md_firstChange, .ref hsA, md_deps, md_patches, md_sort, md_of, md_fileOf, md_one, md_two, md_nameAt, md_nameSize, md_overAt, md_overCount, md_lineAt, md_lineCount, md_changes, md_overs, md_overTotal, md_lineChange, md_textAt, md_textSize, md_lines, md_fileChange, md_fileLines, md_files, md_sets, md_stamp, md_digest, md_in, md_pos, md_stop, md_wrong, md_dep, md_named, md_depCount, md_own, md_refFile, md_full, md_h, md_counts, md_marked, md_namings, md_namingCount, md_listed, md_listedCount, md_listedStamp, md_member, md_text, md_place, md_dead, md_edge, md_way, md_members, md_textLines, md_unsure, md_workedRepository, md_workedFile, md_workedStamp, md_stack, md_before, md_left, md_made, md_madeSize, md_need, md_needs, md_newAt, md_newSize, md_news, md_common, md_keptAs, md_isNew, md_keptFrom, md_stateOf, md_rising])), (hsA, .inl (cBB, 500, .inr (.inr (.inr (.inr gh)))))] ++ gdA cI cB cZ G) t) (va_A ([(md, .inr (12, [md_tape, md_size, md_thrown, md_fault, md_bytes, md_used, md_at, md_length, md_depAt, md_firstChange, .ref hsA, md_deps, md_patches, md_sort, md_of, md_fileOf, md_one, md_two, md_nameAt, md_nameSize, md_overAt, md_overCount, md_lineAt, md_lineCount, md_changes, md_overs, md_overTotal, md_lineChange, md_textAt, md_textSize, md_lines, md_fileChange, md_fileLines, md_files, md_sets, md_stamp, md_digest, md_in, md_pos, md_stop, md_wrong, md_dep, md_named, md_depCount, md_own, md_refFile, md_full, md_h, md_counts, md_marked, md_namings, md_namingCount, md_listed, md_listedCount, md_listedStamp, md_member, md_text, md_place, md_dead, md_edge, md_way, md_members, md_textLines, md_unsure, md_workedRepository, md_workedFile, md_workedStamp, md_stack, md_before, md_left, md_made, md_madeSize, md_need, md_needs, md_newAt, md_newSize, md_news, md_common, md_keptAs, md_isNew, md_keptFrom, md_stateOf, md_rising])), (hsA, .inl (cBB, 500, .inr (.inr (.inr (.inr gh)))))] ++ gdA cI cB cZ G) sz)) 0 0 (va_A ([(md, .inr (12, [md_tape, md_size, md_thrown, md_fault, md_bytes, md_used, md_at, md_length, md_depAt, md_firstChange, .ref hsA, md_deps, md_patches, md_sort, md_of, md_fileOf, md_one, md_two, md_nameAt, md_nameSize, md_overAt, md_overCount, md_lineAt, md_lineCount, md_changes, md_overs, md_overTotal, md_lineChange, md_textAt, md_textSize, md_lines, md_fileChange, md_fileLines, md_files, md_sets, md_stamp, md_digest, md_in, md_pos, md_stop, md_wrong, md_dep, md_named, md_depCount, md_own, md_refFile, md_full, md_h, md_counts, md_marked, md_namings, md_namingCount, md_listed, md_listedCount, md_listedStamp, md_member, md_text, md_place, md_dead, md_edge, md_way, md_members, md_textLines, md_unsure, md_workedRepository, md_workedFile, md_workedStamp, md_stack, md_before, md_left, md_made, md_madeSize, md_need, md_needs, md_newAt, md_newSize, md_news, md_common, md_keptAs, md_isNew, md_keptFrom, md_stateOf, md_rising])), (hsA, .inl (cBB, 500, .inr (.inr (.inr (.inr gh)))))] ++ gdA cI cB cZ G) sz) := by
  refine Met.ofW (cc := prog_14_method_9_code) (maxL := 3) (ret := (Option.some Jvm.ClassFile.FieldType.int)) (by decide) rfl ?_
  intro p e s m args below meth c s₁ B hml hv
  obtain ⟨rfl, hsz, hP, hK, hD0⟩ := hv
  have hx := B.exec
  have hb := B.bytes
  have hr := B.returns
  have hts0 := atoms_spec (ws := ws_Md_order1) B.pre
  have hts : ∀ w ∈ xg_1, w.before _ s = true := fun w h => hts0 w (List.mem_cons_of_mem _ h)
  have hown : s.vm.findClass "PatchStoreModel" = some m.cls := findClass_of_methodNamed B.named
  have hlocks := B.notSynchronized
  subst hsz
  have hD := hD0.self (sz := s.heap.size)
  generalize hAe : va_A ([(md, .inr (12, [md_tape, md_size, md_thrown, md_fault, md_bytes, md_used, md_at, md_length, md_depAt, md_firstChange, .ref hsA, md_deps, md_patches, md_sort, md_of, md_fileOf, md_one, md_two, md_nameAt, md_nameSize, md_overAt, md_overCount, md_lineAt, md_lineCount, md_changes, md_overs, md_overTotal, md_lineChange, md_textAt, md_textSize, md_lines, md_fileChange, md_fileLines, md_files, md_sets, md_stamp, md_digest, md_in, md_pos, md_stop, md_wrong, md_dep, md_named, md_depCount, md_own, md_refFile, md_full, md_h, md_counts, md_marked, md_namings, md_namingCount, md_listed, md_listedCount, md_listedStamp, md_member, md_text, md_place, md_dead, md_edge, md_way, md_members, md_textLines, md_unsure, md_workedRepository, md_workedFile, md_workedStamp, md_stack, md_before, md_left, md_made, md_madeSize, md_need, md_needs, md_newAt, md_newSize, md_news, md_common, md_keptAs, md_isNew, md_keptFrom, md_stateOf, md_rising])), (hsA, .inl (cBB, 500, .inr (.inr (.inr (.inr gh)))))] ++ gdA cI cB cZ G) s.heap.size = A at hD ⊢
  have hA : ∀ q : Nat, s.heap.size ≤ q → A q := fun q h => by rw [← hAe]; exact Or.inr h
  have hS : va_S A s.heap s.heap [] := va_S.rf
  have hl := lv_entry ([.ref md, .int (nI p9), .int (nI q9)]) (n := 3) (Nat.le_of_ble_eq_true rfl)
  rw [lg_entry_eq]
  generalize (lg_sl ([.ref md, .int (nI p9), .int (nI q9)]) ++ List.replicate (3 - (lg_sl ([.ref md, .int (nI p9), .int (nI q9)])).length) Slot.unset).toArray = ls at hl ⊢
  have hl : lv_has ls 3 [(0, .ref md), (1, .int (nI p9)), (2, .int (nI q9))] := hl
  refine lv_aload_n hx hb d_Md_order1_0 rfl (lv_at hl 0 rfl) ?_
  refine va_get (D := (dC, dI)) (ci := 12) (v := .ref hsA) (C := R_Md) (T := F_Md) (N := 83) hx hb hts i_Md hown hK hP 0 rfl rfl 10 (by decide) (hts _ gw_1428) (fun _ h9 => h9) rfl d_Md_order1_1 ?_
  refine lv_iload_n hx hb d_Md_order1_4 rfl (lv_at hl 1 rfl) ?_
  refine xq_ald hx hb hK hP 1 5 rfl rfl (y := (G.ah p9)) (vp_in_nI (by omega) (by omega)) (by rw [show (nI p9).toNatClampNeg = p9 from nI_clamp (by omega)]; exact hgh _ (by omega)) d_Md_order1_5 ?_
  refine lv_iconst (v := 0) hx hb d_Md_order1_6 (by decide) ?_
  refine lv_aload_n hx hb d_Md_order1_7 rfl (lv_at hl 0 rfl) ?_
  refine va_get (D := (dC, dI)) (ci := 12) (v := .ref hsA) (C := R_Md) (T := F_Md) (N := 83) hx hb hts i_Md hown hK hP 0 rfl rfl 10 (by decide) (hts _ gw_1428) (fun _ h9 => h9) rfl d_Md_order1_8 ?_
  refine lv_iload_n hx hb d_Md_order1_11 rfl (lv_at hl 2 rfl) ?_
  refine xq_ald hx hb hK hP 1 5 rfl rfl (y := (G.ah q9)) (vp_in_nI (by omega) (by omega)) (by rw [show (nI q9).toNatClampNeg = q9 from nI_clamp (by omega)]; exact hgh _ (by omega)) d_Md_order1_12 ?_
  refine lv_iconst (v := 0) hx hb d_Md_order1_13 (by decide) ?_
  refine lv_bipush (v := 32) hx hb d_Md_order1_14 (by decide) ?_
  have hPc := va_P.part (cx := []) hP [] rfl
  have hDc := va_D.part (cx := []) hD [] (by decide) rfl
  have hFc := va_freeP (cx := []) hD hS hA [] rfl
  refine va_calli (va_runS (As := [.ref (G.ah p9), .int 0, .ref (G.ah q9), .int 0, .int 32]) (rest := []) ⟨hx, hb, hml, hown, hts⟩ (m_Md_ordHH l dC dI cI cB cL cZ cR cBB cZZ cII G p9 q9 0 0 32 s.heap.size (by omega) (by omega) (by decide) (by decide)) ⟨callB_of 5 hts (xg_in gw_1731) rfl rfl rfl (hts _ gw_13) (hts _ gw_1729) (by decide +kernel) ⟨Nat.le_of_ble_eq_true rfl, Nat.le_of_ble_eq_true rfl⟩, hts _ gw_1730⟩ ⟨xw_blind, fun U hU hW => ⟨rfl, by rw [hU], by rw [hU]; exact hPc, va_K.moved hW.alike hK, hDc.weaken (fun _ _ _ _ => trivial)⟩⟩ rfl rfl hl.1 rfl (lv_room (Nat.le_of_ble_eq_true rfl)) d_Md_order1_16 ⟨Nat.le_of_ble_eq_true rfl, Nat.le_of_ble_eq_true rfl⟩) hS (fun q _ h => hFc q h) hFc (fun r9 u t H1 locs ht hvm hw hB hz1 hk1 hS => ?_)
  obtain ⟨hP1, hK1, hD1⟩ := hB
  rw [ht] at hP1
  obtain ⟨hP, hD⟩ := va_joinP (wr := [(md, .inr (12, [md_tape, md_size, md_thrown, md_fault, md_bytes, md_used, md_at, md_length, md_depAt, md_firstChange, .ref hsA, md_deps, md_patches, md_sort, md_of, md_fileOf, md_one, md_two, md_nameAt, md_nameSize, md_overAt, md_overCount, md_lineAt, md_lineCount, md_changes, md_overs, md_overTotal, md_lineChange, md_textAt, md_textSize, md_lines, md_fileChange, md_fileLines, md_files, md_sets, md_stamp, md_digest, md_in, md_pos, md_stop, md_wrong, md_dep, md_named, md_depCount, md_own, md_refFile, md_full, md_h, md_counts, md_marked, md_namings, md_namingCount, md_listed, md_listedCount, md_listedStamp, md_member, md_text, md_place, md_dead, md_edge, md_way, md_members, md_textLines, md_unsure, md_workedRepository, md_workedFile, md_workedStamp, md_stack, md_before, md_left, md_made, md_madeSize, md_need, md_needs, md_newAt, md_newSize, md_news, md_common, md_keptAs, md_isNew, md_keptFrom, md_stateOf, md_rising])), (hsA, .inl (cBB, 500, .inr (.inr (.inr (.inr gh)))))]) (rx := []) (pl1 := gdA cI cB cZ G) hP hD [] [0, 1] rfl rfl (by decide) (by decide) hk1 hFc hP1 hD1
  generalize H1 = H at hP hS ⊢
  have hP : va_P (dC, dI) classes ([(md, .inr (12, [md_tape, md_size, md_thrown, md_fault, md_bytes, md_used, md_at, md_length, md_depAt, md_firstChange, .ref hsA, md_deps, md_patches, md_sort, md_of, md_fileOf, md_one, md_two, md_nameAt, md_nameSize, md_overAt, md_overCount, md_lineAt, md_lineCount, md_changes, md_overs, md_overTotal, md_lineChange, md_textAt, md_textSize, md_lines, md_fileChange, md_fileLines, md_files, md_sets, md_stamp, md_digest, md_in, md_pos, md_stop, md_wrong, md_dep, md_named, md_depCount, md_own, md_refFile, md_full, md_h, md_counts, md_marked, md_namings, md_namingCount, md_listed, md_listedCount, md_listedStamp, md_member, md_text, md_place, md_dead, md_edge, md_way, md_members, md_textLines, md_unsure, md_workedRepository, md_workedFile, md_workedStamp, md_stack, md_before, md_left, md_made, md_madeSize, md_need, md_needs, md_newAt, md_newSize, md_news, md_common, md_keptAs, md_isNew, md_keptFrom, md_stateOf, md_rising])), (hsA, .inl (cBB, 500, .inr (.inr (.inr (.inr gh)))))] ++ gdA cI cB cZ G) H := hP
  have hD : va_D A ([(md, .inr (12, [md_tape, md_size, md_thrown, md_fault, md_bytes, md_used, md_at, md_length, md_depAt, md_firstChange, .ref hsA, md_deps, md_patches, md_sort, md_of, md_fileOf, md_one, md_two, md_nameAt, md_nameSize, md_overAt, md_overCount, md_lineAt, md_lineCount, md_changes, md_overs, md_overTotal, md_lineChange, md_textAt, md_textSize, md_lines, md_fileChange, md_fileLines, md_files, md_sets, md_stamp, md_digest, md_in, md_pos, md_stop, md_wrong, md_dep, md_named, md_depCount, md_own, md_refFile, md_full, md_h, md_counts, md_marked, md_namings, md_namingCount, md_listed, md_listedCount, md_listedStamp, md_member, md_text, md_place, md_dead, md_edge, md_way, md_members, md_textLines, md_unsure, md_workedRepository, md_workedFile, md_workedStamp, md_stack, md_before, md_left, md_made, md_madeSize, md_need, md_needs, md_newAt, md_newSize, md_news, md_common, md_keptAs, md_isNew, md_keptFrom, md_stateOf, md_rising])), (hsA, .inl (cBB, 500, .inr (.inr (.inr (.inr gh)))))] ++ gdA cI cB cZ G) := hD
  subst hw
  exact W.iret (v := bo (G.H p9) (G.H q9) 0 0 32) hx hb hr (fun t ht hW => ⟨⟨_, (), rfl, rfl, by rw [ht]; exact hP, va_K.moved hW.alike hK, hD⟩, hS.F ht⟩) hS.2.2 d_Md_order1_19
set_option maxHeartbeats 4000000 in
set_option maxRecDepth 100000 in
/-- a patch is found by its hash -/
theorem m_Md_find (l : Launch) (dC : Nat → ClassId) (dI : Nat → Nat → Nat) (cI cB cL cZ cR cBB cZZ cII : ClassId) (md hsA xa NX : Nat) (md_tape md_size md_thrown md_fault md_bytes md_used md_at md_length md_depAt md_firstChange md_deps md_sort md_of md_fileOf md_one md_two md_nameAt md_nameSize md_overAt md_overCount md_lineAt md_lineCount md_changes md_overs md_overTotal md_lineChange md_textAt md_textSize md_lines md_fileChange md_fileLines md_files md_sets md_stamp md_digest md_in md_pos md_stop md_wrong md_dep md_named md_depCount md_own md_refFile md_full md_h md_counts md_marked md_namings md_namingCount md_listed md_listedCount md_listedStamp md_member md_text md_place md_dead md_edge md_way md_members md_textLines md_unsure md_workedRepository md_workedFile md_workedStamp md_stack md_before md_left md_made md_madeSize md_need md_needs md_newAt md_newSize md_news md_common md_keptAs md_isNew md_keptFrom md_stateOf md_rising : Value) (gx : Nat → Int32) (gh : Nat → Option Nat) (G : Gr) (P9 j9 : Nat) (sz : Nat) (hGn : G.n = P9) (hP9 : P9 ≤ 500) (hgh : ∀ i, i < P9 → gh i = some (G.ah i)) (hNX : NX ≤ 200000) (hj9 : j9 + 32 ≤ NX) : Met l y_Md_find ws_Md_find ({ frames := 1, cells := 0, slots := 0, locals := 60 }) (xw_Pc dC dI [(cI, .int), (cB, .byte), (cL, .long), (cZ, .boolean), (cR, .object "PatchStore$Repository"), (cBB, .array .byte), (cZZ, .array .boolean), (cII, .array .int)] [.ref md, .ref xa, .int (nI j9)] ([(md, .inr (12, [md_tape, md_size, md_thrown, md_fault, md_bytes, md_used, md_at, md_length, md_depAt, md_firstChange, .ref hsA, md_deps, .int (nI P9), md_sort, md_of, md_fileOf, md_one, md_two, md_nameAt, md_nameSize, md_overAt, md_overCount, md_lineAt, md_lineCount, md_changes, md_overs, md_overTotal, md_lineChange, md_textAt, md_textSize, md_lines, md_fileChange, md_fileLines, md_files, md_sets, md_stamp, md_digest, md_in, md_pos, md_stop, md_wrong, md_dep, md_named, md_depCount, md_own, md_refFile, md_full, md_h, md_counts, md_marked, md_namings, md_namingCount, md_listed, md_listedCount, md_listedStamp, md_member, md_text, md_place, md_dead, md_edge, md_way, md_members, md_textLines, md_unsure, md_workedRepository, md_workedFile, md_workedStamp, md_stack, md_before, md_left, md_made, md_madeSize, md_need, md_needs, md_newAt, md_newSize, md_news, md_common, md_keptAs, md_isNew, md_keptFrom, md_stateOf, md_rising])), (hsA, .inl (cBB, 500, .inr (.inr (.inr (.inr gh))))), (xa, .inl (cB, NX, .inl gx))] ++ gdA cI cB cZ G) sz) (va_Qi (fun (r : Int32) (_ : Unit) => (r = -1 ∧ ∀ q, ¬ fdR G.H P9 gx j9 q) ∨ ∃ q, fdR G.H P9 gx j9 q ∧ r = nI q) (fun _ t => xw_B dC dI [(cI, .int), (cB, .byte), (cL, .long), (cZ, .boolean), (cR, .object "PatchStore$Repository"), (cBB, .array .byte), (cZZ, .array .boolean), (cII, .array .int)] (va_A ([(md, .inr (12, [md_tape, md_size, md_thrown, md_fault, md_bytes, md_used, md_at, md_length, md_depAt, md_firstChange, .ref hsA, md_deps, .int (nI P9), md_sort, md_of, md_fileOf, md_one, md_two, md_nameAt, md_nameSize, md_overAt, md_overCount, md_lineAt, md_lineCount, md_changes, md_overs, md_overTotal, md_lineChange, md_textAt, md_textSize, md_lines, md_fileChange, md_fileLines, md_files, md_sets, md_stamp, md_digest, md_in, md_pos, md_stop, md_wrong, md_dep, md_named, md_depCount, md_own, md_refFile, md_full, md_h, md_counts, md_marked, md_namings, md_namingCount, md_listed, md_listedCount, md_listedStamp, md_member, md_text, md_place, md_dead, md_edge, md_way, md_members, md_textLines, md_unsure, md_workedRepository, md_workedFile, md_workedStamp, md_stack, md_before, md_left, md_made, md_madeSize, md_need, md_needs, md_newAt, md_newSize, md_news, md_common, md_keptAs, md_isNew, md_keptFrom, md_stateOf, md_rising])), (hsA, .inl (cBB, 500, .inr (.inr (.inr (.inr gh))))), (xa, .inl (cB, NX, .inl gx))] ++ gdA cI cB cZ G) sz) ([(md, .inr (12, [md_tape, md_size, md_thrown, md_fault, md_bytes, md_used, md_at, md_length, md_depAt, md_firstChange, .ref hsA, md_deps, .int (nI P9), md_sort, md_of, md_fileOf, md_one, md_two, md_nameAt, md_nameSize, md_overAt, md_overCount, md_lineAt, md_lineCount, md_changes, md_overs, md_overTotal, md_lineChange, md_textAt, md_textSize, md_lines, md_fileChange, md_fileLines, md_files, md_sets, md_stamp, md_digest, md_in, md_pos, md_stop, md_wrong, md_dep, md_named, md_depCount, md_own, md_refFile, md_full, md_h, md_counts, md_marked, md_namings, md_namingCount, md_listed, md_listedCount, md_listedStamp, md_member, md_text, md_place, md_dead, md_edge, md_way, md_members, md_textLines, md_unsure, md_workedRepository, md_workedFile, md_workedStamp, md_stack, md_before, md_left, md_made, md_madeSize, md_need, md_needs, md_newAt, md_newSize, md_news, md_common, md_keptAs, md_isNew, md_keptFrom, md_stateOf, md_rising])), (hsA, .inl (cBB, 500, .inr (.inr (.inr (.inr gh))))), (xa, .inl (cB, NX, .inl gx))] ++ gdA cI cB cZ G) t) (va_A ([(md, .inr (12, [md_tape, md_size, md_thrown, md_fault, md_bytes, md_used, md_at, md_length, md_depAt, md_firstChange, .ref hsA, md_deps, .int (nI P9), md_sort, md_of, md_fileOf, md_one, md_two, md_nameAt, md_nameSize, md_overAt, md_overCount, md_lineAt, md_lineCount, md_changes, md_overs, md_overTotal, md_lineChange, md_textAt, md_textSize, md_lines, md_fileChange, md_fileLines, md_files, md_sets, md_stamp, md_digest, md_in, md_pos, md_stop, md_wrong, md_dep, md_named, md_depCount, md_own, md_refFile, md_full, md_h, md_counts, md_marked, md_namings, md_namingCount, md_listed, md_listedCount, md_listedStamp, md_member, md_text, md_place, md_dead, md_edge, md_way, md_members, md_textLines, md_unsure, md_workedRepository, md_workedFile, md_workedStamp, md_stack, md_before, md_left, md_made, md_madeSize, md_need, md_needs, md_newAt, md_newSize, md_news, md_common, md_keptAs, md_isNew, md_keptFrom, md_stateOf, md_rising])), (hsA, .inl (cBB, 500, .inr (.inr (.inr (.inr gh))))), (xa, .inl (cB, NX, .inl gx))] ++ gdA cI cB cZ G) sz)) 0 0 (va_A ([(md, .inr (12, [md_tape, md_size, md_thrown, md_fault, md_bytes, md_used, md_at, md_length, md_depAt, md_firstChange, .ref hsA, md_deps, .int (nI P9), md_sort, md_of, md_fileOf, md_one, md_two, md_nameAt, md_nameSize, md_overAt, md_overCount, md_lineAt, md_lineCount, md_changes, md_overs, md_overTotal, md_lineChange, md_textAt, md_textSize, md_lines, md_fileChange, md_fileLines, md_files, md_sets, md_stamp, md_digest, md_in, md_pos, md_stop, md_wrong, md_dep, md_named, md_depCount, md_own, md_refFile, md_full, md_h, md_counts, md_marked, md_namings, md_namingCount, md_listed, md_listedCount, md_listedStamp, md_member, md_text, md_place, md_dead, md_edge, md_way, md_members, md_textLines, md_unsure, md_workedRepository, md_workedFile, md_workedStamp, md_stack, md_before, md_left, md_made, md_madeSize, md_need, md_needs, md_newAt, md_newSize, md_news, md_common, md_keptAs, md_isNew, md_keptFrom, md_stateOf, md_rising])), (hsA, .inl (cBB, 500, .inr (.inr (.inr (.inr gh))))), (xa, .inl (cB, NX, .inl gx))] ++ gdA cI cB cZ G) sz) := by
  refine Met.ofW (cc := prog_14_method_17_code) (maxL := 4) (ret := (Option.some Jvm.ClassFile.FieldType.int)) (by decide) rfl ?_
  intro p e s m args below meth c s₁ B hml hv
  obtain ⟨rfl, hsz, hP, hK, hD0⟩ := hv
  have hx := B.exec
  have hb := B.bytes
  have hr := B.returns
  have hts0 := atoms_spec (ws := ws_Md_find) B.pre
  have hts : ∀ w ∈ xg_1, w.before _ s = true := fun w h => hts0 w (List.mem_cons_of_mem _ h)
  have hown : s.vm.findClass "PatchStoreModel" = some m.cls := findClass_of_methodNamed B.named
  have hlocks := B.notSynchronized
  subst hsz
  have hD := hD0.self (sz := s.heap.size)
  generalize hAe : va_A ([(md, .inr (12, [md_tape, md_size, md_thrown, md_fault, md_bytes, md_used, md_at, md_length, md_depAt, md_firstChange, .ref hsA, md_deps, .int (nI P9), md_sort, md_of, md_fileOf, md_one, md_two, md_nameAt, md_nameSize, md_overAt, md_overCount, md_lineAt, md_lineCount, md_changes, md_overs, md_overTotal, md_lineChange, md_textAt, md_textSize, md_lines, md_fileChange, md_fileLines, md_files, md_sets, md_stamp, md_digest, md_in, md_pos, md_stop, md_wrong, md_dep, md_named, md_depCount, md_own, md_refFile, md_full, md_h, md_counts, md_marked, md_namings, md_namingCount, md_listed, md_listedCount, md_listedStamp, md_member, md_text, md_place, md_dead, md_edge, md_way, md_members, md_textLines, md_unsure, md_workedRepository, md_workedFile, md_workedStamp, md_stack, md_before, md_left, md_made, md_madeSize, md_need, md_needs, md_newAt, md_newSize, md_news, md_common, md_keptAs, md_isNew, md_keptFrom, md_stateOf, md_rising])), (hsA, .inl (cBB, 500, .inr (.inr (.inr (.inr gh))))), (xa, .inl (cB, NX, .inl gx))] ++ gdA cI cB cZ G) s.heap.size = A at hD ⊢
  have hA : ∀ q : Nat, s.heap.size ≤ q → A q := fun q h => by rw [← hAe]; exact Or.inr h
  have hS : va_S A s.heap s.heap [] := va_S.rf
  have hl := lv_entry ([.ref md, .ref xa, .int (nI j9)]) (n := 4) (Nat.le_of_ble_eq_true rfl)
  rw [lg_entry_eq]
  generalize (lg_sl ([.ref md, .ref xa, .int (nI j9)]) ++ List.replicate (4 - (lg_sl ([.ref md, .ref xa, .int (nI j9)])).length) Slot.unset).toArray = ls at hl ⊢
  have hl : lv_has ls 4 [(0, .ref md), (1, .ref xa), (2, .int (nI j9))] := hl
  generalize hQe : MQ _ _ _ _ _ _ _ = Q
  refine lv_iconst (v := 0) hx hb d_Md_find_0 (by decide) ?_
  refine lv_istore_n (lv' := [(3, .int 0), (0, .ref md), (1, .ref xa), (2, .int (nI j9))]) hx hb d_Md_find_1 rfl hl (by decide) rfl (fun ls hl => ?_)
  have loop_2 : ∀ (n9 : Nat) (p9 : Nat) (H : Heap) (locs : List Loc) (ls : Array Slot), P9 - p9 < n9 → (p9 ≤ P9) → (∀ q, q < p9 → ¬ sq (G.H q) 0 32 = sq gx j9 32) → va_P (dC, dI) classes ([(md, .inr (12, [md_tape, md_size, md_thrown, md_fault, md_bytes, md_used, md_at, md_length, md_depAt, md_firstChange, .ref hsA, md_deps, .int (nI P9), md_sort, md_of, md_fileOf, md_one, md_two, md_nameAt, md_nameSize, md_overAt, md_overCount, md_lineAt, md_lineCount, md_changes, md_overs, md_overTotal, md_lineChange, md_textAt, md_textSize, md_lines, md_fileChange, md_fileLines, md_files, md_sets, md_stamp, md_digest, md_in, md_pos, md_stop, md_wrong, md_dep, md_named, md_depCount, md_own, md_refFile, md_full, md_h, md_counts, md_marked, md_namings, md_namingCount, md_listed, md_listedCount, md_listedStamp, md_member, md_text, md_place, md_dead, md_edge, md_way, md_members, md_textLines, md_unsure, md_workedRepository, md_workedFile, md_workedStamp, md_stack, md_before, md_left, md_made, md_madeSize, md_need, md_needs, md_newAt, md_newSize, md_news, md_common, md_keptAs, md_isNew, md_keptFrom, md_stateOf, md_rising])), (hsA, .inl (cBB, 500, .inr (.inr (.inr (.inr gh))))), (xa, .inl (cB, NX, .inl gx))] ++ gdA cI cB cZ G) H → va_D A ([(md, .inr (12, [md_tape, md_size, md_thrown, md_fault, md_bytes, md_used, md_at, md_length, md_depAt, md_firstChange, .ref hsA, md_deps, .int (nI P9), md_sort, md_of, md_fileOf, md_one, md_two, md_nameAt, md_nameSize, md_overAt, md_overCount, md_lineAt, md_lineCount, md_changes, md_overs, md_overTotal, md_lineChange, md_textAt, md_textSize, md_lines, md_fileChange, md_fileLines, md_files, md_sets, md_stamp, md_digest, md_in, md_pos, md_stop, md_wrong, md_dep, md_named, md_depCount, md_own, md_refFile, md_full, md_h, md_counts, md_marked, md_namings, md_namingCount, md_listed, md_listedCount, md_listedStamp, md_member, md_text, md_place, md_dead, md_edge, md_way, md_members, md_textLines, md_unsure, md_workedRepository, md_workedFile, md_workedStamp, md_stack, md_before, md_left, md_made, md_madeSize, md_need, md_needs, md_newAt, md_newSize, md_news, md_common, md_keptAs, md_isNew, md_keptFrom, md_stateOf, md_rising])), (hsA, .inl (cBB, 500, .inr (.inr (.inr (.inr gh))))), (xa, .inl (cB, NX, .inl gx))] ++ gdA cI cB cZ G) → va_S A s.heap H locs → lv_has ls 4 [(0, .ref md), (1, .ref xa), (2, .int (nI j9)), (3, .int (nI p9))] → W p l e (headSpec ws_Md_find ({ frames := 1, cells := 0, slots := 0, locals := 60 })).room s m ([.ref md, .ref xa, .int (nI j9)] : List Value).toArray below meth c H locs 0 0 Q (F0 m 2 ls []) := by
    intro n9
    induction n9 with
    | zero => intro p9 H locs ls hm; exact absurd hm (Nat.not_lt_zero _)
    | succ n9 ih_2 =>
      intro p9 H locs ls hm hp hno hP hD hS hl
      refine lv_iload_n hx hb d_Md_find_2 rfl (lv_at hl 3 rfl) ?_
      refine lv_aload_n hx hb d_Md_find_3 rfl (lv_at hl 0 rfl) ?_
      refine va_get (D := (dC, dI)) (ci := 12) (v := .int (nI P9)) (C := R_Md) (T := F_Md) (N := 83) hx hb hts i_Md hown hK hP 0 rfl rfl 12 (by decide) (hts _ gw_1430) (fun _ h9 => h9) rfl d_Md_find_4 ?_
      refine lv_icmp_ge (tgt := 35) hx hb d_Md_find_7 (by decide) (fun c_7 => ?_) (fun c_7 => ?_)
      · have n_7 : P9 ≤ p9 := (nI_leI (a := P9) (b := p9) (by omega) (by omega)).mp c_7
        refine lv_iconst (v := (-1)) hx hb d_Md_find_35 (by decide) ?_
        rw [← hQe]
        exact W.iret (v := (-1)) hx hb hr (fun t ht hW => ⟨⟨_, (), rfl, Or.inl ⟨rfl, fun q z => hno q (by have := z.1; omega) z.2⟩, by rw [ht]; exact hP, va_K.moved hW.alike hK, hD⟩, hS.F ht⟩) hS.2.2 d_Md_find_36
      · have n_7 : p9 < P9 := Nat.lt_of_not_le (fun z => c_7 ((nI_leI (a := P9) (b := p9) (by omega) (by omega)).mpr z))
        refine lv_aload_n hx hb d_Md_find_10 rfl (lv_at hl 0 rfl) ?_
        refine va_get (D := (dC, dI)) (ci := 12) (v := .ref hsA) (C := R_Md) (T := F_Md) (N := 83) hx hb hts i_Md hown hK hP 0 rfl rfl 10 (by decide) (hts _ gw_1428) (fun _ h9 => h9) rfl d_Md_find_11 ?_
        refine lv_iload_n hx hb d_Md_find_14 rfl (lv_at hl 3 rfl) ?_
        refine xq_ald hx hb hK hP 1 5 rfl rfl (y := (G.ah p9)) (vp_in_nI (by omega) (by omega)) (by rw [show (nI p9).toNatClampNeg = p9 from nI_clamp (by omega)]; exact hgh _ (by omega)) d_Md_find_15 ?_
        refine lv_iconst (v := 0) hx hb d_Md_find_16 (by decide) ?_
        refine lv_aload_n hx hb d_Md_find_17 rfl (lv_at hl 1 rfl) ?_
        refine lv_iload_n hx hb d_Md_find_18 rfl (lv_at hl 2 rfl) ?_
        refine lv_bipush (v := 32) hx hb d_Md_find_19 (by decide) ?_
        have hPc := va_P.part (cx := [(xa, .inl (cB, NX, .inl gx))]) hP [2] rfl
        have hDc := va_D.part (cx := [(xa, .inl (cB, NX, .inl gx))]) hD [2] (by decide) rfl
        have hFc := va_freeP (cx := [(xa, .inl (cB, NX, .inl gx))]) hD hS hA [2] rfl
        refine va_calli (va_runS (As := [.ref (G.ah p9), .int 0, .ref xa, .int (nI j9), .int 32]) (rest := []) ⟨hx, hb, hml, hown, hts⟩ (m_Md_ordHX l dC dI cI cB cL cZ cR cBB cZZ cII xa NX gx G p9 0 j9 32 H.size (by omega) (by decide) (by omega) (by omega)) ⟨callB_of 5 hts (xg_in gw_1731) rfl rfl rfl (hts _ gw_13) (hts _ gw_1729) (by decide +kernel) ⟨Nat.le_of_ble_eq_true rfl, Nat.le_of_ble_eq_true rfl⟩, hts _ gw_1730⟩ ⟨xw_blind, fun U hU hW => ⟨rfl, by rw [hU], by rw [hU]; exact hPc, va_K.moved hW.alike hK, hDc.weaken (fun _ _ _ _ => trivial)⟩⟩ rfl rfl hl.1 rfl (lv_room (Nat.le_of_ble_eq_true rfl)) d_Md_find_21 ⟨Nat.le_of_ble_eq_true rfl, Nat.le_of_ble_eq_true rfl⟩) hS (fun q _ h => hFc q h) hFc (fun r9 u t H1 locs ht hvm hw hB hz1 hk1 hS => ?_)
        obtain ⟨hP1, hK1, hD1⟩ := hB
        rw [ht] at hP1
        obtain ⟨hP, hD⟩ := va_joinP (wr := [(md, .inr (12, [md_tape, md_size, md_thrown, md_fault, md_bytes, md_used, md_at, md_length, md_depAt, md_firstChange, .ref hsA, md_deps, .int (nI P9), md_sort, md_of, md_fileOf, md_one, md_two, md_nameAt, md_nameSize, md_overAt, md_overCount, md_lineAt, md_lineCount, md_changes, md_overs, md_overTotal, md_lineChange, md_textAt, md_textSize, md_lines, md_fileChange, md_fileLines, md_files, md_sets, md_stamp, md_digest, md_in, md_pos, md_stop, md_wrong, md_dep, md_named, md_depCount, md_own, md_refFile, md_full, md_h, md_counts, md_marked, md_namings, md_namingCount, md_listed, md_listedCount, md_listedStamp, md_member, md_text, md_place, md_dead, md_edge, md_way, md_members, md_textLines, md_unsure, md_workedRepository, md_workedFile, md_workedStamp, md_stack, md_before, md_left, md_made, md_madeSize, md_need, md_needs, md_newAt, md_newSize, md_news, md_common, md_keptAs, md_isNew, md_keptFrom, md_stateOf, md_rising])), (hsA, .inl (cBB, 500, .inr (.inr (.inr (.inr gh)))))]) (rx := [(xa, .inl (cB, NX, .inl gx))]) (pl1 := gdA cI cB cZ G) hP hD [2] [0, 1] rfl rfl (by decide) (by decide) hk1 hFc hP1 hD1
        generalize H1 = H at hP hS ⊢
        have hP : va_P (dC, dI) classes ([(md, .inr (12, [md_tape, md_size, md_thrown, md_fault, md_bytes, md_used, md_at, md_length, md_depAt, md_firstChange, .ref hsA, md_deps, .int (nI P9), md_sort, md_of, md_fileOf, md_one, md_two, md_nameAt, md_nameSize, md_overAt, md_overCount, md_lineAt, md_lineCount, md_changes, md_overs, md_overTotal, md_lineChange, md_textAt, md_textSize, md_lines, md_fileChange, md_fileLines, md_files, md_sets, md_stamp, md_digest, md_in, md_pos, md_stop, md_wrong, md_dep, md_named, md_depCount, md_own, md_refFile, md_full, md_h, md_counts, md_marked, md_namings, md_namingCount, md_listed, md_listedCount, md_listedStamp, md_member, md_text, md_place, md_dead, md_edge, md_way, md_members, md_textLines, md_unsure, md_workedRepository, md_workedFile, md_workedStamp, md_stack, md_before, md_left, md_made, md_madeSize, md_need, md_needs, md_newAt, md_newSize, md_news, md_common, md_keptAs, md_isNew, md_keptFrom, md_stateOf, md_rising])), (hsA, .inl (cBB, 500, .inr (.inr (.inr (.inr gh))))), (xa, .inl (cB, NX, .inl gx))] ++ gdA cI cB cZ G) H := hP
        have hD : va_D A ([(md, .inr (12, [md_tape, md_size, md_thrown, md_fault, md_bytes, md_used, md_at, md_length, md_depAt, md_firstChange, .ref hsA, md_deps, .int (nI P9), md_sort, md_of, md_fileOf, md_one, md_two, md_nameAt, md_nameSize, md_overAt, md_overCount, md_lineAt, md_lineCount, md_changes, md_overs, md_overTotal, md_lineChange, md_textAt, md_textSize, md_lines, md_fileChange, md_fileLines, md_files, md_sets, md_stamp, md_digest, md_in, md_pos, md_stop, md_wrong, md_dep, md_named, md_depCount, md_own, md_refFile, md_full, md_h, md_counts, md_marked, md_namings, md_namingCount, md_listed, md_listedCount, md_listedStamp, md_member, md_text, md_place, md_dead, md_edge, md_way, md_members, md_textLines, md_unsure, md_workedRepository, md_workedFile, md_workedStamp, md_stack, md_before, md_left, md_made, md_madeSize, md_need, md_needs, md_newAt, md_newSize, md_news, md_common, md_keptAs, md_isNew, md_keptFrom, md_stateOf, md_rising])), (hsA, .inl (cBB, 500, .inr (.inr (.inr (.inr gh))))), (xa, .inl (cB, NX, .inl gx))] ++ gdA cI cB cZ G) := hD
        subst hw
        refine lv_if_ne (tgt := 29) hx hb d_Md_find_24 (by decide) (fun c_24 => ?_) (fun c_24 => ?_)
        · refine lv_iinc (v := nI (p9 + 1)) (lv' := [(3, .int (nI (p9 + 1))), (0, .ref md), (1, .ref xa), (2, .int (nI j9))]) hx hb d_Md_find_29 hl (k := 3) rfl (by exact nI_add _ _) (by decide) rfl (fun ls hl => ?_)
          refine lv_goto (tgt := 2) hx hb d_Md_find_32 (by decide) ?_
          exact ih_2 (p9 + 1) _ _ _ (by omega) (by omega) (fun q z => if e9 : q = p9 then by rw [e9]; exact fun y => c_24 ((bo_z _ _ _ _ _).mpr y) else hno q (by omega)) hP hD hS (lv_sub hl [1, 2, 3, 0] rfl)
        · refine lv_iload_n hx hb d_Md_find_27 rfl (lv_at hl 3 rfl) ?_
          rw [← hQe]
          exact W.iret (v := nI p9) hx hb hr (fun t ht hW => ⟨⟨_, (), rfl, Or.inr ⟨p9, ⟨n_7, (bo_z _ _ _ _ _).mp c_24⟩, rfl⟩, by rw [ht]; exact hP, va_K.moved hW.alike hK, hD⟩, hS.F ht⟩) hS.2.2 d_Md_find_28
  exact loop_2 _ 0 _ _ _ (Nat.lt_succ_self _) (Nat.zero_le _) (fun q z => absurd z (Nat.not_lt_zero _)) hP hD hS (lv_sub hl [1, 2, 3, 0] rfl)
