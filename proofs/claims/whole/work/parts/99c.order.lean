/-! 99c.order.lean.txt -/
theorem gw_1098 : (Jvm.Cond.methodLink "PatchStore$Text" (176 : Nat) ({ cls := "PatchStore$Text", name := "countWaits", desc := "(I)I" } : Jvm.MethodName)) ∈ xg_1 := xg_s5 138 rfl rfl
theorem gw_1100 : (Jvm.Cond.instanceMethod ({ cls := "PatchStore$Text", name := "countWaits", desc := "(I)I" } : Jvm.MethodName)) ∈ xg_1 := xg_s5 140 rfl rfl
theorem gw_1101 : (Jvm.Cond.code ({ cls := "PatchStore$Text", name := "countWaits", desc := "(I)I" } : Jvm.MethodName) prog_11_method_16_code (4 : Nat) (Option.some Jvm.ClassFile.FieldType.int)) ∈ xg_1 := xg_s5 141 rfl rfl
theorem gw_1106 : (Jvm.Cond.methodLink "PatchStore$Text" (188 : Nat) ({ cls := "PatchStore$Text", name := "leastFree", desc := "()I" } : Jvm.MethodName)) ∈ xg_1 := xg_s5 146 rfl rfl
theorem gw_1108 : (Jvm.Cond.instanceMethod ({ cls := "PatchStore$Text", name := "leastFree", desc := "()I" } : Jvm.MethodName)) ∈ xg_1 := xg_s5 148 rfl rfl
theorem gw_1109 : (Jvm.Cond.code ({ cls := "PatchStore$Text", name := "leastFree", desc := "()I" } : Jvm.MethodName) prog_11_method_17_code (3 : Nat) (Option.some Jvm.ClassFile.FieldType.int)) ∈ xg_1 := xg_s5 149 rfl rfl
theorem gw_1110 : (Jvm.Cond.methodLink "PatchStore$Text" (192 : Nat) ({ cls := "PatchStore$Text", name := "takeSlot", desc := "(I)V" } : Jvm.MethodName)) ∈ xg_1 := xg_s5 150 rfl rfl
theorem gw_1112 : (Jvm.Cond.instanceMethod ({ cls := "PatchStore$Text", name := "takeSlot", desc := "(I)V" } : Jvm.MethodName)) ∈ xg_1 := xg_s5 152 rfl rfl
theorem gw_1113 : (Jvm.Cond.code ({ cls := "PatchStore$Text", name := "takeSlot", desc := "(I)V" } : Jvm.MethodName) prog_11_method_18_code (3 : Nat) (Option.none : Option Jvm.ClassFile.FieldType)) ∈ xg_1 := xg_s5 153 rfl rfl
def y_Tx_takeLines : MethodName := ⟨"PatchStore$Text", "takeLines", "()V"⟩
abbrev c_Tx_takeLines : Cond := (Jvm.Cond.code ({ cls := "PatchStore$Text", name := "takeLines", desc := "()V" } : Jvm.MethodName) prog_11_method_15_code (4 : Nat) (Option.none : Option Jvm.ClassFile.FieldType))
abbrev ws_Tx_takeLines : List Cond := c_Tx_takeLines :: xg_1
theorem d_Tx_takeLines_0 : decode prog_11_method_15_code 0 = .ok (.iconst 0, 1) := by decide +kernel
theorem d_Tx_takeLines_1 : decode prog_11_method_15_code 1 = .ok (.istore_n 1, 1) := by decide +kernel
theorem d_Tx_takeLines_2 : decode prog_11_method_15_code 2 = .ok (.iload_n 1, 1) := by decide +kernel
theorem d_Tx_takeLines_3 : decode prog_11_method_15_code 3 = .ok (.aload_n 0, 1) := by decide +kernel
theorem d_Tx_takeLines_4 : decode prog_11_method_15_code 4 = .ok (.getfield 97, 3) := by decide +kernel
theorem d_Tx_takeLines_7 : decode prog_11_method_15_code 7 = .ok (.if_icmp .ge 33, 3) := by decide +kernel
theorem d_Tx_takeLines_10 : decode prog_11_method_15_code 10 = .ok (.aload_n 0, 1) := by decide +kernel
theorem d_Tx_takeLines_11 : decode prog_11_method_15_code 11 = .ok (.getfield 31, 3) := by decide +kernel
theorem d_Tx_takeLines_14 : decode prog_11_method_15_code 14 = .ok (.iload_n 1, 1) := by decide +kernel
theorem d_Tx_takeLines_15 : decode prog_11_method_15_code 15 = .ok (.aload_n 0, 1) := by decide +kernel
theorem d_Tx_takeLines_16 : decode prog_11_method_15_code 16 = .ok (.getfield 28, 3) := by decide +kernel
theorem d_Tx_takeLines_19 : decode prog_11_method_15_code 19 = .ok (.iload_n 1, 1) := by decide +kernel
theorem d_Tx_takeLines_20 : decode prog_11_method_15_code 20 = .ok (.iaload, 1) := by decide +kernel
theorem d_Tx_takeLines_21 : decode prog_11_method_15_code 21 = .ok (.ifCond .eq 7, 3) := by decide +kernel
theorem d_Tx_takeLines_24 : decode prog_11_method_15_code 24 = .ok (.iconst 0, 1) := by decide +kernel
theorem d_Tx_takeLines_25 : decode prog_11_method_15_code 25 = .ok (.goto 8, 3) := by decide +kernel
theorem d_Tx_takeLines_28 : decode prog_11_method_15_code 28 = .ok (.aload_n 0, 1) := by decide +kernel
theorem d_Tx_takeLines_29 : decode prog_11_method_15_code 29 = .ok (.iload_n 1, 1) := by decide +kernel
theorem d_Tx_takeLines_30 : decode prog_11_method_15_code 30 = .ok (.invokevirtual 176, 3) := by decide +kernel
theorem d_Tx_takeLines_33 : decode prog_11_method_15_code 33 = .ok (.iastore, 1) := by decide +kernel
theorem d_Tx_takeLines_34 : decode prog_11_method_15_code 34 = .ok (.iinc 1 1, 3) := by decide +kernel
theorem d_Tx_takeLines_37 : decode prog_11_method_15_code 37 = .ok (.goto (-35), 3) := by decide +kernel
theorem d_Tx_takeLines_40 : decode prog_11_method_15_code 40 = .ok (.aload_n 0, 1) := by decide +kernel
theorem d_Tx_takeLines_41 : decode prog_11_method_15_code 41 = .ok (.iconst 0, 1) := by decide +kernel
theorem d_Tx_takeLines_42 : decode prog_11_method_15_code 42 = .ok (.putfield 179, 3) := by decide +kernel
theorem d_Tx_takeLines_45 : decode prog_11_method_15_code 45 = .ok (.aload_n 0, 1) := by decide +kernel
theorem d_Tx_takeLines_46 : decode prog_11_method_15_code 46 = .ok (.iconst 0, 1) := by decide +kernel
theorem d_Tx_takeLines_47 : decode prog_11_method_15_code 47 = .ok (.putfield 182, 3) := by decide +kernel
theorem d_Tx_takeLines_50 : decode prog_11_method_15_code 50 = .ok (.aload_n 0, 1) := by decide +kernel
theorem d_Tx_takeLines_51 : decode prog_11_method_15_code 51 = .ok (.iconst 0, 1) := by decide +kernel
theorem d_Tx_takeLines_52 : decode prog_11_method_15_code 52 = .ok (.putfield 185, 3) := by decide +kernel
theorem d_Tx_takeLines_55 : decode prog_11_method_15_code 55 = .ok (.aload_n 0, 1) := by decide +kernel
theorem d_Tx_takeLines_56 : decode prog_11_method_15_code 56 = .ok (.getfield 97, 3) := by decide +kernel
theorem d_Tx_takeLines_59 : decode prog_11_method_15_code 59 = .ok (.aload_n 0, 1) := by decide +kernel
theorem d_Tx_takeLines_60 : decode prog_11_method_15_code 60 = .ok (.getfield 153, 3) := by decide +kernel
theorem d_Tx_takeLines_63 : decode prog_11_method_15_code 63 = .ok (.isub, 1) := by decide +kernel
theorem d_Tx_takeLines_64 : decode prog_11_method_15_code 64 = .ok (.istore_n 1, 1) := by decide +kernel
theorem d_Tx_takeLines_65 : decode prog_11_method_15_code 65 = .ok (.iconst 0, 1) := by decide +kernel
theorem d_Tx_takeLines_66 : decode prog_11_method_15_code 66 = .ok (.istore_n 2, 1) := by decide +kernel
theorem d_Tx_takeLines_67 : decode prog_11_method_15_code 67 = .ok (.iload_n 2, 1) := by decide +kernel
theorem d_Tx_takeLines_68 : decode prog_11_method_15_code 68 = .ok (.iload_n 1, 1) := by decide +kernel
theorem d_Tx_takeLines_69 : decode prog_11_method_15_code 69 = .ok (.if_icmp .ge 25, 3) := by decide +kernel
theorem d_Tx_takeLines_72 : decode prog_11_method_15_code 72 = .ok (.aload_n 0, 1) := by decide +kernel
theorem d_Tx_takeLines_73 : decode prog_11_method_15_code 73 = .ok (.invokevirtual 188, 3) := by decide +kernel
theorem d_Tx_takeLines_76 : decode prog_11_method_15_code 76 = .ok (.istore_n 3, 1) := by decide +kernel
theorem d_Tx_takeLines_77 : decode prog_11_method_15_code 77 = .ok (.iload_n 3, 1) := by decide +kernel
theorem d_Tx_takeLines_78 : decode prog_11_method_15_code 78 = .ok (.iconst (-1), 1) := by decide +kernel
theorem d_Tx_takeLines_79 : decode prog_11_method_15_code 79 = .ok (.if_icmp .ne 4, 3) := by decide +kernel
theorem d_Tx_takeLines_82 : decode prog_11_method_15_code 82 = .ok (.return_, 1) := by decide +kernel
theorem d_Tx_takeLines_83 : decode prog_11_method_15_code 83 = .ok (.aload_n 0, 1) := by decide +kernel
theorem d_Tx_takeLines_84 : decode prog_11_method_15_code 84 = .ok (.iload_n 3, 1) := by decide +kernel
theorem d_Tx_takeLines_85 : decode prog_11_method_15_code 85 = .ok (.invokevirtual 192, 3) := by decide +kernel
theorem d_Tx_takeLines_88 : decode prog_11_method_15_code 88 = .ok (.iinc 2 1, 3) := by decide +kernel
theorem d_Tx_takeLines_91 : decode prog_11_method_15_code 91 = .ok (.goto (-24), 3) := by decide +kernel
theorem d_Tx_takeLines_94 : decode prog_11_method_15_code 94 = .ok (.return_, 1) := by decide +kernel
theorem lfO_cnt {b : Nat → Bool} {n : Nat} (h : lfO b n = none) : cnt b n = 0 := cnt_zero n (lfO_none h)
/-- the order of the slots -/
def gL (re : Nat → Int64) (n k : Nat) (go : Nat → Int32) : List Nat := (grd re n k go).1
/-- how often there was another -/
def gU (re : Nat → Int64) (n k : Nat) (go : Nat → Int32) : Nat := (grd re n k go).2
theorem gL_none {re : Nat → Int64} {n k : Nat} {go : Nat → Int32} (h : lfO (frB re go n) n = none) (hk : 0 < k) : gL re n k go = [] ∧ gU re n k go = 0 := by
  obtain ⟨j, rfl⟩ : ∃ j, k = j + 1 := ⟨k - 1, by omega⟩
  unfold gL gU
  rw [grd_none h]
  exact ⟨rfl, rfl⟩
theorem gL_some {re : Nat → Int64} {n k a : Nat} {go : Nat → Int32} (h : lfO (frB re go n) n = some a) (hk : 0 < k) : gL re n k go = a :: gL re n (k - 1) (upd go a 1) ∧ gU re n k go = gU re n (k - 1) (upd go a 1) + (if 2 ≤ cnt (frB re go n) n then 1 else 0) := by
  obtain ⟨j, rfl⟩ : ∃ j, k = j + 1 := ⟨k - 1, by omega⟩
  unfold gL gU
  rw [grd_some h, Nat.add_sub_cancel]
  exact ⟨rfl, rfl⟩
theorem gL_zero (re : Nat → Int64) (n : Nat) (go : Nat → Int32) : gL re n 0 go = [] ∧ gU re n 0 go = 0 := ⟨rfl, rfl⟩
/-- the slots as lines -/
def asL (L A : List Nat) : List Nat := A.map (fun a => L.getD a 0)
theorem asL_app (L A : List Nat) (x : Nat) : asL L (A ++ [x]) = asL L A ++ [L.getD x 0] := by
  unfold asL
  rw [List.map_append]; rfl
theorem asL_len (L A : List Nat) : (asL L A).length = A.length := List.length_map _
theorem frB_go {re : Nat → Int64} {go : Nat → Int32} {n a : Nat} (h : frB re go n a = true) : go a = 0 := by
  unfold frB at h
  rw [Bool.and_eq_true, beq_iff_eq] at h
  exact h.1
set_option maxHeartbeats 4000000 in
set_option maxRecDepth 100000 in
/-- the lines are taken -/
theorem m_Tx_takeLines (l : Launch) (dC : Nat → ClassId) (dI : Nat → Nat → Nat) (cI cB cL cZ cR : ClassId) (h ln llA trA goA odA waA reA : Nat) (tx_length tx_size tx_unsure tx_stranded tx_stock tx_changes tx_loaded tx_version tx_loadedFile tx_slots tx_deleters ln_at ln_change ln_place ln_up ln_down ln_ofFile ln_total : Value) (S : Stk) (rw9 go od wt : Nat → Int32) (re : Nat → Int64) (L : List Nat) (LN : Nat → Nat) (nn dn : Nat) (sz : Nat) (hnn : nn ≤ 400) (hLl : L.length = nn) (hdn : dn ≤ nn) (hrw : arrL rw9 L) (hL5 : ∀ x, x ∈ L → x < 4000) (hll : ∀ x, x ∈ L → S.ll x = nI (LN x)) (hLN : ∀ x, LN x ≤ 500) : Met l y_Tx_takeLines ws_Tx_takeLines ({ frames := 2, cells := 0, slots := 0, locals := 120 }) (xw_Pc dC dI [(cI, .int), (cB, .byte), (cL, .long), (cZ, .boolean), (cR, .object "PatchStore$Repository")] [.ref h] [(h, .inr (10, [.ref odA, tx_length, tx_size, tx_unsure, tx_stranded, .int (nI dn), tx_stock, tx_changes, .ref ln, tx_loaded, tx_version, tx_loadedFile, .ref trA, tx_slots, .int (nI nn), .ref reA, tx_deleters, .ref goA, .ref waA])), (ln, .inr (4, [ln_at, .ref llA, ln_change, ln_place, ln_up, ln_down, ln_ofFile, ln_total])), (llA, .inl (cI, 4000, .inl S.ll)), (trA, .inl (cI, 400, .inl rw9)), (goA, .inl (cI, 400, .inl go)), (odA, .inl (cI, 400, .inl od)), (waA, .inl (cI, 400, .inl wt)), (reA, .inl (cL, 2800, .inr (.inl re)))] sz) (va_Qv (fun u : (Nat → Int32) × (Nat → Int32) × (Nat → Int32) => arrL u.2.1 (asL L (gL re nn (nn - dn) go))) (fun u t => xw_B dC dI [(cI, .int), (cB, .byte), (cL, .long), (cZ, .boolean), (cR, .object "PatchStore$Repository")] (va_A [(h, .inr (10, [.ref odA, tx_length, tx_size, tx_unsure, tx_stranded, .int (nI dn), tx_stock, tx_changes, .ref ln, tx_loaded, tx_version, tx_loadedFile, .ref trA, tx_slots, .int (nI nn), .ref reA, tx_deleters, .ref goA, .ref waA])), (ln, .inr (4, [ln_at, .ref llA, ln_change, ln_place, ln_up, ln_down, ln_ofFile, ln_total])), (llA, .inl (cI, 4000, .inl S.ll)), (trA, .inl (cI, 400, .inl rw9)), (goA, .inl (cI, 400, .inl go)), (odA, .inl (cI, 400, .inl od)), (waA, .inl (cI, 400, .inl wt)), (reA, .inl (cL, 2800, .inr (.inl re)))] sz) [(h, .inr (10, [.ref odA, .int (nI ((gL re nn (nn - dn) go).length)), .int (nI (szN LN (asL L (gL re nn (nn - dn) go)))), .int (nI (gU re nn (nn - dn) go)), tx_stranded, .int (nI dn), tx_stock, tx_changes, .ref ln, tx_loaded, tx_version, tx_loadedFile, .ref trA, tx_slots, .int (nI nn), .ref reA, tx_deleters, .ref goA, .ref waA])), (ln, .inr (4, [ln_at, .ref llA, ln_change, ln_place, ln_up, ln_down, ln_ofFile, ln_total])), (llA, .inl (cI, 4000, .inl S.ll)), (trA, .inl (cI, 400, .inl rw9)), (goA, .inl (cI, 400, .inl u.1)), (odA, .inl (cI, 400, .inl u.2.1)), (waA, .inl (cI, 400, .inl u.2.2)), (reA, .inl (cL, 2800, .inr (.inl re)))] t) (va_A [(h, .inr (10, [.ref odA, tx_length, tx_size, tx_unsure, tx_stranded, .int (nI dn), tx_stock, tx_changes, .ref ln, tx_loaded, tx_version, tx_loadedFile, .ref trA, tx_slots, .int (nI nn), .ref reA, tx_deleters, .ref goA, .ref waA])), (ln, .inr (4, [ln_at, .ref llA, ln_change, ln_place, ln_up, ln_down, ln_ofFile, ln_total])), (llA, .inl (cI, 4000, .inl S.ll)), (trA, .inl (cI, 400, .inl rw9)), (goA, .inl (cI, 400, .inl go)), (odA, .inl (cI, 400, .inl od)), (waA, .inl (cI, 400, .inl wt)), (reA, .inl (cL, 2800, .inr (.inl re)))] sz)) 0 0 (va_A [(h, .inr (10, [.ref odA, tx_length, tx_size, tx_unsure, tx_stranded, .int (nI dn), tx_stock, tx_changes, .ref ln, tx_loaded, tx_version, tx_loadedFile, .ref trA, tx_slots, .int (nI nn), .ref reA, tx_deleters, .ref goA, .ref waA])), (ln, .inr (4, [ln_at, .ref llA, ln_change, ln_place, ln_up, ln_down, ln_ofFile, ln_total])), (llA, .inl (cI, 4000, .inl S.ll)), (trA, .inl (cI, 400, .inl rw9)), (goA, .inl (cI, 400, .inl go)), (odA, .inl (cI, 400, .inl od)), (waA, .inl (cI, 400, .inl wt)), (reA, .inl (cL, 2800, .inr (.inl re)))] sz) := by
  refine Met.ofW (cc := prog_11_method_15_code) (maxL := 4) (ret := none) (by decide) rfl ?_
  intro p e s m args below meth c s₁ B hml hv
  obtain ⟨rfl, hsz, hP, hK, hD0⟩ := hv
  have hx := B.exec
  have hb := B.bytes
  have hr := B.returns
  have hts0 := atoms_spec (ws := ws_Tx_takeLines) B.pre
  have hts : ∀ w ∈ xg_1, w.before _ s = true := fun w h => hts0 w (List.mem_cons_of_mem _ h)
  have hown : s.vm.findClass "PatchStore$Text" = some m.cls := findClass_of_methodNamed B.named
  have hlocks := B.notSynchronized
  subst hsz
  have hD := hD0.self (sz := s.heap.size)
  generalize hAe : va_A [(h, .inr (10, [.ref odA, tx_length, tx_size, tx_unsure, tx_stranded, .int (nI dn), tx_stock, tx_changes, .ref ln, tx_loaded, tx_version, tx_loadedFile, .ref trA, tx_slots, .int (nI nn), .ref reA, tx_deleters, .ref goA, .ref waA])), (ln, .inr (4, [ln_at, .ref llA, ln_change, ln_place, ln_up, ln_down, ln_ofFile, ln_total])), (llA, .inl (cI, 4000, .inl S.ll)), (trA, .inl (cI, 400, .inl rw9)), (goA, .inl (cI, 400, .inl go)), (odA, .inl (cI, 400, .inl od)), (waA, .inl (cI, 400, .inl wt)), (reA, .inl (cL, 2800, .inr (.inl re)))] s.heap.size = A at hD ⊢
  have hA : ∀ q : Nat, s.heap.size ≤ q → A q := fun q h => by rw [← hAe]; exact Or.inr h
  have hS : va_S A s.heap s.heap [] := va_S.rf
  have hl := lv_entry ([.ref h]) (n := 4) (Nat.le_of_ble_eq_true rfl)
  rw [lg_entry_eq]
  generalize (lg_sl ([.ref h]) ++ List.replicate (4 - (lg_sl ([.ref h])).length) Slot.unset).toArray = ls at hl ⊢
  have hl : lv_has ls 4 [(0, .ref h)] := hl
  generalize hQe : MQ _ _ _ _ _ _ _ = Q
  refine lv_iconst (v := 0) hx hb d_Tx_takeLines_0 (by decide) ?_
  refine lv_istore_n (lv' := [(1, .int 0), (0, .ref h)]) hx hb d_Tx_takeLines_1 rfl hl (by decide) rfl (fun ls hl => ?_)
  have loop_2 : ∀ (n9 : Nat) (i : Nat) (wtu : Nat → Int32) (H : Heap) (locs : List Loc) (ls : Array Slot), nn - i < n9 → (i ≤ nn) → (∀ a, a < i → go a = 0 → wtu a = nI (wtN re go nn a)) → va_P (dC, dI) classes [(h, .inr (10, [.ref odA, tx_length, tx_size, tx_unsure, tx_stranded, .int (nI dn), tx_stock, tx_changes, .ref ln, tx_loaded, tx_version, tx_loadedFile, .ref trA, tx_slots, .int (nI nn), .ref reA, tx_deleters, .ref goA, .ref waA])), (ln, .inr (4, [ln_at, .ref llA, ln_change, ln_place, ln_up, ln_down, ln_ofFile, ln_total])), (llA, .inl (cI, 4000, .inl S.ll)), (trA, .inl (cI, 400, .inl rw9)), (goA, .inl (cI, 400, .inl go)), (odA, .inl (cI, 400, .inl od)), (waA, .inl (cI, 400, .inl wtu)), (reA, .inl (cL, 2800, .inr (.inl re)))] H → va_D A [(h, .inr (10, [.ref odA, tx_length, tx_size, tx_unsure, tx_stranded, .int (nI dn), tx_stock, tx_changes, .ref ln, tx_loaded, tx_version, tx_loadedFile, .ref trA, tx_slots, .int (nI nn), .ref reA, tx_deleters, .ref goA, .ref waA])), (ln, .inr (4, [ln_at, .ref llA, ln_change, ln_place, ln_up, ln_down, ln_ofFile, ln_total])), (llA, .inl (cI, 4000, .inl S.ll)), (trA, .inl (cI, 400, .inl rw9)), (goA, .inl (cI, 400, .inl go)), (odA, .inl (cI, 400, .inl od)), (waA, .inl (cI, 400, .inl wtu)), (reA, .inl (cL, 2800, .inr (.inl re)))] → va_S A s.heap H locs → lv_has ls 4 [(0, .ref h), (1, .int (nI i))] → W p l e (headSpec ws_Tx_takeLines ({ frames := 2, cells := 0, slots := 0, locals := 120 })).room s m ([.ref h] : List Value).toArray below meth c H locs 0 0 Q (F0 m 2 ls []) := by
    intro n9
    induction n9 with
    | zero => intro i wtu H locs ls hm; exact absurd hm (Nat.not_lt_zero _)
    | succ n9 ih_2 =>
      intro i wtu H locs ls hm hi hw1 hP hD hS hl
      refine lv_iload_n hx hb d_Tx_takeLines_2 rfl (lv_at hl 1 rfl) ?_
      refine lv_aload_n hx hb d_Tx_takeLines_3 rfl (lv_at hl 0 rfl) ?_
      refine va_get (D := (dC, dI)) (ci := 10) (v := .int (nI nn)) (C := R_Tx) (T := F_Tx) (N := 19) hx hb hts i_Tx hown hK hP 0 rfl rfl 14 (by decide) (hts _ gw_396) (fun _ h9 => h9) rfl d_Tx_takeLines_4 ?_
      refine lv_icmp_ge (tgt := 40) hx hb d_Tx_takeLines_7 (by decide) (fun c_7 => ?_) (fun c_7 => ?_)
      · have n_7 : nn ≤ i := (nI_leI (a := nn) (b := i) (by omega) (by omega)).mp c_7
        refine lv_aload_n hx hb d_Tx_takeLines_40 rfl (lv_at hl 0 rfl) ?_
        refine lv_iconst (v := 0) hx hb d_Tx_takeLines_41 (by decide) ?_
        refine va_put (D := (dC, dI)) (ci := 10) (v := .int 0) (ty := .int) (C := R_Tx) (T := F_Tx) (N := 19) hx hb hts i_Tx t_Tx t_Tx_ok n_Tx hown hK hP hD hS 0 rfl rfl 1 (by decide) (hts _ gw_379) (fun _ h9 => h9) rfl (by decide +kernel) rfl rfl (Nat.le_of_ble_eq_true rfl) d_Tx_takeLines_42 (fun H locs hP hD hS => ?_)
        have hP : va_P (dC, dI) classes [(h, .inr (10, [.ref odA, .int 0, tx_size, tx_unsure, tx_stranded, .int (nI dn), tx_stock, tx_changes, .ref ln, tx_loaded, tx_version, tx_loadedFile, .ref trA, tx_slots, .int (nI nn), .ref reA, tx_deleters, .ref goA, .ref waA])), (ln, .inr (4, [ln_at, .ref llA, ln_change, ln_place, ln_up, ln_down, ln_ofFile, ln_total])), (llA, .inl (cI, 4000, .inl S.ll)), (trA, .inl (cI, 400, .inl rw9)), (goA, .inl (cI, 400, .inl go)), (odA, .inl (cI, 400, .inl od)), (waA, .inl (cI, 400, .inl wtu)), (reA, .inl (cL, 2800, .inr (.inl re)))] H := hP
        have hD : va_D A [(h, .inr (10, [.ref odA, .int 0, tx_size, tx_unsure, tx_stranded, .int (nI dn), tx_stock, tx_changes, .ref ln, tx_loaded, tx_version, tx_loadedFile, .ref trA, tx_slots, .int (nI nn), .ref reA, tx_deleters, .ref goA, .ref waA])), (ln, .inr (4, [ln_at, .ref llA, ln_change, ln_place, ln_up, ln_down, ln_ofFile, ln_total])), (llA, .inl (cI, 4000, .inl S.ll)), (trA, .inl (cI, 400, .inl rw9)), (goA, .inl (cI, 400, .inl go)), (odA, .inl (cI, 400, .inl od)), (waA, .inl (cI, 400, .inl wtu)), (reA, .inl (cL, 2800, .inr (.inl re)))] := hD
        refine lv_aload_n hx hb d_Tx_takeLines_45 rfl (lv_at hl 0 rfl) ?_
        refine lv_iconst (v := 0) hx hb d_Tx_takeLines_46 (by decide) ?_
        refine va_put (D := (dC, dI)) (ci := 10) (v := .int 0) (ty := .int) (C := R_Tx) (T := F_Tx) (N := 19) hx hb hts i_Tx t_Tx t_Tx_ok n_Tx hown hK hP hD hS 0 rfl rfl 2 (by decide) (hts _ gw_380) (fun _ h9 => h9) rfl (by decide +kernel) rfl rfl (Nat.le_of_ble_eq_true rfl) d_Tx_takeLines_47 (fun H locs hP hD hS => ?_)
        have hP : va_P (dC, dI) classes [(h, .inr (10, [.ref odA, .int 0, .int 0, tx_unsure, tx_stranded, .int (nI dn), tx_stock, tx_changes, .ref ln, tx_loaded, tx_version, tx_loadedFile, .ref trA, tx_slots, .int (nI nn), .ref reA, tx_deleters, .ref goA, .ref waA])), (ln, .inr (4, [ln_at, .ref llA, ln_change, ln_place, ln_up, ln_down, ln_ofFile, ln_total])), (llA, .inl (cI, 4000, .inl S.ll)), (trA, .inl (cI, 400, .inl rw9)), (goA, .inl (cI, 400, .inl go)), (odA, .inl (cI, 400, .inl od)), (waA, .inl (cI, 400, .inl wtu)), (reA, .inl (cL, 2800, .inr (.inl re)))] H := hP
        have hD : va_D A [(h, .inr (10, [.ref odA, .int 0, .int 0, tx_unsure, tx_stranded, .int (nI dn), tx_stock, tx_changes, .ref ln, tx_loaded, tx_version, tx_loadedFile, .ref trA, tx_slots, .int (nI nn), .ref reA, tx_deleters, .ref goA, .ref waA])), (ln, .inr (4, [ln_at, .ref llA, ln_change, ln_place, ln_up, ln_down, ln_ofFile, ln_total])), (llA, .inl (cI, 4000, .inl S.ll)), (trA, .inl (cI, 400, .inl rw9)), (goA, .inl (cI, 400, .inl go)), (odA, .inl (cI, 400, .inl od)), (waA, .inl (cI, 400, .inl wtu)), (reA, .inl (cL, 2800, .inr (.inl re)))] := hD
        refine lv_aload_n hx hb d_Tx_takeLines_50 rfl (lv_at hl 0 rfl) ?_
        refine lv_iconst (v := 0) hx hb d_Tx_takeLines_51 (by decide) ?_
        refine va_put (D := (dC, dI)) (ci := 10) (v := .int 0) (ty := .int) (C := R_Tx) (T := F_Tx) (N := 19) hx hb hts i_Tx t_Tx t_Tx_ok n_Tx hown hK hP hD hS 0 rfl rfl 3 (by decide) (hts _ gw_382) (fun _ h9 => h9) rfl (by decide +kernel) rfl rfl (Nat.le_of_ble_eq_true rfl) d_Tx_takeLines_52 (fun H locs hP hD hS => ?_)
        have hP : va_P (dC, dI) classes [(h, .inr (10, [.ref odA, .int 0, .int 0, .int 0, tx_stranded, .int (nI dn), tx_stock, tx_changes, .ref ln, tx_loaded, tx_version, tx_loadedFile, .ref trA, tx_slots, .int (nI nn), .ref reA, tx_deleters, .ref goA, .ref waA])), (ln, .inr (4, [ln_at, .ref llA, ln_change, ln_place, ln_up, ln_down, ln_ofFile, ln_total])), (llA, .inl (cI, 4000, .inl S.ll)), (trA, .inl (cI, 400, .inl rw9)), (goA, .inl (cI, 400, .inl go)), (odA, .inl (cI, 400, .inl od)), (waA, .inl (cI, 400, .inl wtu)), (reA, .inl (cL, 2800, .inr (.inl re)))] H := hP
        have hD : va_D A [(h, .inr (10, [.ref odA, .int 0, .int 0, .int 0, tx_stranded, .int (nI dn), tx_stock, tx_changes, .ref ln, tx_loaded, tx_version, tx_loadedFile, .ref trA, tx_slots, .int (nI nn), .ref reA, tx_deleters, .ref goA, .ref waA])), (ln, .inr (4, [ln_at, .ref llA, ln_change, ln_place, ln_up, ln_down, ln_ofFile, ln_total])), (llA, .inl (cI, 4000, .inl S.ll)), (trA, .inl (cI, 400, .inl rw9)), (goA, .inl (cI, 400, .inl go)), (odA, .inl (cI, 400, .inl od)), (waA, .inl (cI, 400, .inl wtu)), (reA, .inl (cL, 2800, .inr (.inl re)))] := hD
        refine lv_aload_n hx hb d_Tx_takeLines_55 rfl (lv_at hl 0 rfl) ?_
        refine va_get (D := (dC, dI)) (ci := 10) (v := .int (nI nn)) (C := R_Tx) (T := F_Tx) (N := 19) hx hb hts i_Tx hown hK hP 0 rfl rfl 14 (by decide) (hts _ gw_396) (fun _ h9 => h9) rfl d_Tx_takeLines_56 ?_
        refine lv_aload_n hx hb d_Tx_takeLines_59 rfl (lv_at hl 0 rfl) ?_
        refine va_get (D := (dC, dI)) (ci := 10) (v := .int (nI dn)) (C := R_Tx) (T := F_Tx) (N := 19) hx hb hts i_Tx hown hK hP 0 rfl rfl 5 (by decide) (hts _ gw_386) (fun _ h9 => h9) rfl d_Tx_takeLines_60 ?_
        refine lv_isub hx hb d_Tx_takeLines_63 ?_
        refine lv_topi (fun x_1 ex_1 => ?_)
        obtain rfl : x_1 = nI (nn - dn) := by rw [ex_1]; first | done | (exact nI_subN hdn)
        refine lv_istore_n (lv' := [(1, .int (nI (nn - dn))), (0, .ref h)]) hx hb d_Tx_takeLines_64 rfl hl (by decide) rfl (fun ls hl => ?_)
        refine lv_iconst (v := 0) hx hb d_Tx_takeLines_65 (by decide) ?_
        refine lv_istore_n (lv' := [(2, .int 0), (1, .int (nI (nn - dn))), (0, .ref h)]) hx hb d_Tx_takeLines_66 rfl hl (by decide) rfl (fun ls hl => ?_)
        have loop_67 : ∀ (n9 : Nat) (k : Nat) (AA : List Nat) (gou : Nat → Int32) (odu : Nat → Int32) (wtv : Nat → Int32) (un : Nat) (H : Heap) (locs : List Loc) (ls : Array Slot), (nn - dn) - k < n9 → (k ≤ (nn - dn)) → (AA.length = k) → (wtR re gou wtv nn) → (AA ++ gL re nn ((nn - dn) - k) gou = (gL re nn (nn - dn) go)) → (un + gU re nn ((nn - dn) - k) gou = (gU re nn (nn - dn) go)) → (arrL odu (asL L AA)) → (un ≤ k) → va_P (dC, dI) classes [(h, .inr (10, [.ref odA, .int (nI k), .int (nI (szN LN (asL L AA))), .int (nI un), tx_stranded, .int (nI dn), tx_stock, tx_changes, .ref ln, tx_loaded, tx_version, tx_loadedFile, .ref trA, tx_slots, .int (nI nn), .ref reA, tx_deleters, .ref goA, .ref waA])), (ln, .inr (4, [ln_at, .ref llA, ln_change, ln_place, ln_up, ln_down, ln_ofFile, ln_total])), (llA, .inl (cI, 4000, .inl S.ll)), (trA, .inl (cI, 400, .inl rw9)), (goA, .inl (cI, 400, .inl gou)), (odA, .inl (cI, 400, .inl odu)), (waA, .inl (cI, 400, .inl wtv)), (reA, .inl (cL, 2800, .inr (.inl re)))] H → va_D A [(h, .inr (10, [.ref odA, .int (nI k), .int (nI (szN LN (asL L AA))), .int (nI un), tx_stranded, .int (nI dn), tx_stock, tx_changes, .ref ln, tx_loaded, tx_version, tx_loadedFile, .ref trA, tx_slots, .int (nI nn), .ref reA, tx_deleters, .ref goA, .ref waA])), (ln, .inr (4, [ln_at, .ref llA, ln_change, ln_place, ln_up, ln_down, ln_ofFile, ln_total])), (llA, .inl (cI, 4000, .inl S.ll)), (trA, .inl (cI, 400, .inl rw9)), (goA, .inl (cI, 400, .inl gou)), (odA, .inl (cI, 400, .inl odu)), (waA, .inl (cI, 400, .inl wtv)), (reA, .inl (cL, 2800, .inr (.inl re)))] → va_S A s.heap H locs → lv_has ls 4 [(0, .ref h), (1, .int (nI (nn - dn))), (2, .int (nI k))] → W p l e (headSpec ws_Tx_takeLines ({ frames := 2, cells := 0, slots := 0, locals := 120 })).room s m ([.ref h] : List Value).toArray below meth c H locs 0 0 Q (F0 m 67 ls []) := by
          intro n9
          induction n9 with
          | zero => intro k AA gou odu wtv un H locs ls hm; exact absurd hm (Nat.not_lt_zero _)
          | succ n9 ih_67 =>
            intro k AA gou odu wtv un H locs ls hm hk hAk hwR hg1 hg2 hod hunk hP hD hS hl
            have hszb := szN_le hLN (asL L AA)
            rw [asL_len] at hszb
            refine lv_iload_n hx hb d_Tx_takeLines_67 rfl (lv_at hl 2 rfl) ?_
            refine lv_iload_n hx hb d_Tx_takeLines_68 rfl (lv_at hl 1 rfl) ?_
            refine lv_icmp_ge (tgt := 94) hx hb d_Tx_takeLines_69 (by decide) (fun c_69 => ?_) (fun c_69 => ?_)
            · have n_69 : (nn - dn) ≤ k := (nI_leI (a := (nn - dn)) (b := k) (by omega) (by omega)).mp c_69
              rw [show (nn - dn) - k = 0 by omega, (gL_zero re nn gou).1, List.append_nil] at hg1
              rw [show (nn - dn) - k = 0 by omega, (gL_zero re nn gou).2] at hg2
              rw [hg1] at hod
              rw [show un = (gU re nn (nn - dn) go) from hg2, ← hAk, hg1] at hP hD
              rw [← hQe]
              exact W.vret hx hb hr (fun t ht hW => ⟨⟨(gou, odu, wtv), rfl, hod, by rw [ht]; exact hP, va_K.moved hW.alike hK, hD⟩, hS.F ht⟩) hS.2.2 d_Tx_takeLines_94
            · have n_69 : k < (nn - dn) := Nat.lt_of_not_le (fun z => c_69 ((nI_leI (a := (nn - dn)) (b := k) (by omega) (by omega)).mpr z))
              refine lv_aload_n hx hb d_Tx_takeLines_72 rfl (lv_at hl 0 rfl) ?_
              have hPc := hP.sub (ws' := [(h, .inr (10, [.ref odA, .int (nI k), .int (nI (szN LN (asL L AA))), .int (nI un), tx_stranded, .int (nI dn), tx_stock, tx_changes, .ref ln, tx_loaded, tx_version, tx_loadedFile, .ref trA, tx_slots, .int (nI nn), .ref reA, tx_deleters, .ref goA, .ref waA])), (goA, .inl (cI, 400, .inl gou)), (waA, .inl (cI, 400, .inl wtv))]) [0, 4, 6] rfl
              have hDc := hD.sub (ws' := [(h, .inr (10, [.ref odA, .int (nI k), .int (nI (szN LN (asL L AA))), .int (nI un), tx_stranded, .int (nI dn), tx_stock, tx_changes, .ref ln, tx_loaded, tx_version, tx_loadedFile, .ref trA, tx_slots, .int (nI nn), .ref reA, tx_deleters, .ref goA, .ref waA])), (goA, .inl (cI, 400, .inl gou)), (waA, .inl (cI, 400, .inl wtv))]) [0, 4, 6] (by decide) rfl
              have hFc := va_free (wc := [(h, .inr (10, [.ref odA, .int (nI k), .int (nI (szN LN (asL L AA))), .int (nI un), tx_stranded, .int (nI dn), tx_stock, tx_changes, .ref ln, tx_loaded, tx_version, tx_loadedFile, .ref trA, tx_slots, .int (nI nn), .ref reA, tx_deleters, .ref goA, .ref waA])), (goA, .inl (cI, 400, .inl gou)), (waA, .inl (cI, 400, .inl wtv))]) hD hS hA [0, 4, 6] rfl
              refine va_calli (va_runV (As := []) (rest := []) ⟨hx, hb, hml, hown, hts⟩ (m_Tx_leastFree l dC dI cI cB cL cZ cR h goA waA (.ref odA) (.int (nI k)) (.int (nI (szN LN (asL L AA)))) (tx_stranded) (.int (nI dn)) (tx_stock) (tx_changes) (.ref ln) (tx_loaded) (tx_version) (tx_loadedFile) (.ref trA) (tx_slots) (.ref reA) (tx_deleters) gou wtv re nn un H.size hnn hwR (by omega)) (cwV 0 hts (xg_V gw_1106 gw_1108 (xg_p 52 (q := (⟨"PatchStore$Text", "leastFree", "()I"⟩, 19)) (by decide +kernel)) gw_9 gw_1109) rfl rfl rfl (by decide +kernel) ⟨Nat.le_of_ble_eq_true rfl, Nat.le_of_ble_eq_true rfl⟩) ⟨xw_blind, va_recv hK hPc (ci := 10) (q0 := 0) rfl rfl, fun U hU hW => ⟨rfl, by rw [hU], by rw [hU]; exact hPc, va_K.moved hW.alike hK, hDc.weaken (fun _ _ _ _ => trivial)⟩⟩ rfl rfl hl.1 rfl (lv_room (Nat.le_of_ble_eq_true rfl)) d_Tx_takeLines_73 ⟨Nat.le_of_ble_eq_true rfl, Nat.le_of_ble_eq_true rfl⟩) hS (fun q _ h => hFc q h) hFc (fun r9 u8 t H1 locs ht hvm hw hB hz1 hk1 hS => ?_)
              obtain ⟨hP1, hK1, hD1⟩ := hB
              rw [ht] at hP1
              obtain ⟨hP, hD⟩ := va_join (wr := [(ln, .inr (4, [ln_at, .ref llA, ln_change, ln_place, ln_up, ln_down, ln_ofFile, ln_total])), (llA, .inl (cI, 4000, .inl S.ll)), (trA, .inl (cI, 400, .inl rw9)), (odA, .inl (cI, 400, .inl odu)), (reA, .inl (cL, 2800, .inr (.inl re)))]) (w1 := [(h, .inr (10, [.ref odA, .int (nI k), .int (nI (szN LN (asL L AA))), .int (nI u8), tx_stranded, .int (nI dn), tx_stock, tx_changes, .ref ln, tx_loaded, tx_version, tx_loadedFile, .ref trA, tx_slots, .int (nI nn), .ref reA, tx_deleters, .ref goA, .ref waA])), (goA, .inl (cI, 400, .inl gou)), (waA, .inl (cI, 400, .inl wtv))]) hP hD [0, 4, 6] [1, 2, 3, 5, 7] rfl rfl (by decide) (by decide) hk1 hFc hP1 hD1
              generalize H1 = H at hP hS ⊢
              have hP : va_P (dC, dI) classes [(ln, .inr (4, [ln_at, .ref llA, ln_change, ln_place, ln_up, ln_down, ln_ofFile, ln_total])), (llA, .inl (cI, 4000, .inl S.ll)), (trA, .inl (cI, 400, .inl rw9)), (odA, .inl (cI, 400, .inl odu)), (reA, .inl (cL, 2800, .inr (.inl re))), (h, .inr (10, [.ref odA, .int (nI k), .int (nI (szN LN (asL L AA))), .int (nI u8), tx_stranded, .int (nI dn), tx_stock, tx_changes, .ref ln, tx_loaded, tx_version, tx_loadedFile, .ref trA, tx_slots, .int (nI nn), .ref reA, tx_deleters, .ref goA, .ref waA])), (goA, .inl (cI, 400, .inl gou)), (waA, .inl (cI, 400, .inl wtv))] H := hP
              have hD : va_D A [(ln, .inr (4, [ln_at, .ref llA, ln_change, ln_place, ln_up, ln_down, ln_ofFile, ln_total])), (llA, .inl (cI, 4000, .inl S.ll)), (trA, .inl (cI, 400, .inl rw9)), (odA, .inl (cI, 400, .inl odu)), (reA, .inl (cL, 2800, .inr (.inl re))), (h, .inr (10, [.ref odA, .int (nI k), .int (nI (szN LN (asL L AA))), .int (nI u8), tx_stranded, .int (nI dn), tx_stock, tx_changes, .ref ln, tx_loaded, tx_version, tx_loadedFile, .ref trA, tx_slots, .int (nI nn), .ref reA, tx_deleters, .ref goA, .ref waA])), (goA, .inl (cI, 400, .inl gou)), (waA, .inl (cI, 400, .inl wtv))] := hD
              rcases hw with ⟨rfl, rfl⟩
              · have hP : va_P (dC, dI) classes [(ln, .inr (4, [ln_at, .ref llA, ln_change, ln_place, ln_up, ln_down, ln_ofFile, ln_total])), (llA, .inl (cI, 4000, .inl S.ll)), (trA, .inl (cI, 400, .inl rw9)), (odA, .inl (cI, 400, .inl odu)), (reA, .inl (cL, 2800, .inr (.inl re))), (h, .inr (10, [.ref odA, .int (nI k), .int (nI (szN LN (asL L AA))), .int (nI (un + (if 2 ≤ cnt (frB re gou nn) nn then 1 else 0))), tx_stranded, .int (nI dn), tx_stock, tx_changes, .ref ln, tx_loaded, tx_version, tx_loadedFile, .ref trA, tx_slots, .int (nI nn), .ref reA, tx_deleters, .ref goA, .ref waA])), (goA, .inl (cI, 400, .inl gou)), (waA, .inl (cI, 400, .inl wtv))] H := hP
                have hD : va_D A [(ln, .inr (4, [ln_at, .ref llA, ln_change, ln_place, ln_up, ln_down, ln_ofFile, ln_total])), (llA, .inl (cI, 4000, .inl S.ll)), (trA, .inl (cI, 400, .inl rw9)), (odA, .inl (cI, 400, .inl odu)), (reA, .inl (cL, 2800, .inr (.inl re))), (h, .inr (10, [.ref odA, .int (nI k), .int (nI (szN LN (asL L AA))), .int (nI (un + (if 2 ≤ cnt (frB re gou nn) nn then 1 else 0))), tx_stranded, .int (nI dn), tx_stock, tx_changes, .ref ln, tx_loaded, tx_version, tx_loadedFile, .ref trA, tx_slots, .int (nI nn), .ref reA, tx_deleters, .ref goA, .ref waA])), (goA, .inl (cI, 400, .inl gou)), (waA, .inl (cI, 400, .inl wtv))] := hD
                rcases hlf : lfO (frB re gou nn) nn with _ | a9
                · refine lv_topi (fun x9 ex9 => ?_)
                  obtain rfl : x9 = (-1) := by rw [ex9]; rfl
                  refine lv_istore_n (lv' := [(3, .int (-1)), (0, .ref h), (1, .int (nI (nn - dn))), (2, .int (nI k))]) hx hb d_Tx_takeLines_76 rfl hl (by decide) rfl (fun ls hl => ?_)
                  refine lv_iload_n hx hb d_Tx_takeLines_77 rfl (lv_at hl 0 rfl) ?_
                  refine lv_iconst (v := (-1)) hx hb d_Tx_takeLines_78 (by decide) ?_
                  refine lv_icmp_ne (tgt := 83) hx hb d_Tx_takeLines_79 (by decide) (fun c_79 => absurd c_79 (by decide)) (fun _ => ?_)
                  have hP := hP.sub (ws' := [(h, .inr (10, [.ref odA, .int (nI k), .int (nI (szN LN (asL L AA))), .int (nI (un + (if 2 ≤ cnt (frB re gou nn) nn then 1 else 0))), tx_stranded, .int (nI dn), tx_stock, tx_changes, .ref ln, tx_loaded, tx_version, tx_loadedFile, .ref trA, tx_slots, .int (nI nn), .ref reA, tx_deleters, .ref goA, .ref waA])), (ln, .inr (4, [ln_at, .ref llA, ln_change, ln_place, ln_up, ln_down, ln_ofFile, ln_total])), (llA, .inl (cI, 4000, .inl S.ll)), (trA, .inl (cI, 400, .inl rw9)), (goA, .inl (cI, 400, .inl gou)), (odA, .inl (cI, 400, .inl odu)), (waA, .inl (cI, 400, .inl wtv)), (reA, .inl (cL, 2800, .inr (.inl re)))]) [5, 0, 1, 2, 6, 3, 7, 4] rfl
                  have hD := hD.sub (ws' := [(h, .inr (10, [.ref odA, .int (nI k), .int (nI (szN LN (asL L AA))), .int (nI (un + (if 2 ≤ cnt (frB re gou nn) nn then 1 else 0))), tx_stranded, .int (nI dn), tx_stock, tx_changes, .ref ln, tx_loaded, tx_version, tx_loadedFile, .ref trA, tx_slots, .int (nI nn), .ref reA, tx_deleters, .ref goA, .ref waA])), (ln, .inr (4, [ln_at, .ref llA, ln_change, ln_place, ln_up, ln_down, ln_ofFile, ln_total])), (llA, .inl (cI, 4000, .inl S.ll)), (trA, .inl (cI, 400, .inl rw9)), (goA, .inl (cI, 400, .inl gou)), (odA, .inl (cI, 400, .inl odu)), (waA, .inl (cI, 400, .inl wtv)), (reA, .inl (cL, 2800, .inr (.inl re)))]) [5, 0, 1, 2, 6, 3, 7, 4] (by decide) rfl
                  have hgn := gL_none (k := (nn - dn) - k) hlf (by omega)
                  rw [hgn.1, List.append_nil] at hg1
                  rw [hgn.2] at hg2
                  rw [show (un + (if 2 ≤ cnt (frB re gou nn) nn then 1 else 0)) = un from by rw [lfO_cnt hlf]; rfl] at hP hD
                  rw [hg1] at hod
                  rw [show un = (gU re nn (nn - dn) go) from hg2, ← hAk, hg1] at hP hD
                  rw [← hQe]
                  exact W.vret hx hb hr (fun t ht hW => ⟨⟨(gou, odu, wtv), rfl, hod, by rw [ht]; exact hP, va_K.moved hW.alike hK, hD⟩, hS.F ht⟩) hS.2.2 d_Tx_takeLines_82
                · refine lv_topi (fun x9 ex9 => ?_)
                  obtain rfl : x9 = nI a9 := by rw [ex9]; rfl
                  obtain ⟨hlf1, hlf2, -⟩ := lfO_spec hlf
                  have hgs := gL_some (k := (nn - dn) - k) hlf (by omega)
                  have hxm := getD_mem (L := L) (i := a9) (by omega)
                  have hx4 := hL5 _ hxm
                  have hn5 := hLN (L.getD a9 0)
                  refine lv_istore_n (lv' := [(3, .int (nI a9)), (0, .ref h), (1, .int (nI (nn - dn))), (2, .int (nI k))]) hx hb d_Tx_takeLines_76 rfl hl (by decide) rfl (fun ls hl => ?_)
                  refine lv_iload_n hx hb d_Tx_takeLines_77 rfl (lv_at hl 0 rfl) ?_
                  refine lv_iconst (v := (-1)) hx hb d_Tx_takeLines_78 (by decide) ?_
                  refine lv_icmp_ne (tgt := 83) hx hb d_Tx_takeLines_79 (by decide) (fun _ => ?_) (fun c_79 => absurd c_79 (fun z => nI_nm1 (by omega) z.symm))
                  refine lv_aload_n hx hb d_Tx_takeLines_83 rfl (lv_at hl 1 rfl) ?_
                  refine lv_iload_n hx hb d_Tx_takeLines_84 rfl (lv_at hl 0 rfl) ?_
                  have hPc := hP.sub (ws' := [(h, .inr (10, [.ref odA, .int (nI k), .int (nI (szN LN (asL L AA))), .int (nI (un + (if 2 ≤ cnt (frB re gou nn) nn then 1 else 0))), tx_stranded, .int (nI dn), tx_stock, tx_changes, .ref ln, tx_loaded, tx_version, tx_loadedFile, .ref trA, tx_slots, .int (nI nn), .ref reA, tx_deleters, .ref goA, .ref waA])), (ln, .inr (4, [ln_at, .ref llA, ln_change, ln_place, ln_up, ln_down, ln_ofFile, ln_total])), (llA, .inl (cI, 4000, .inl S.ll)), (trA, .inl (cI, 400, .inl rw9)), (goA, .inl (cI, 400, .inl gou)), (odA, .inl (cI, 400, .inl odu)), (waA, .inl (cI, 400, .inl wtv)), (reA, .inl (cL, 2800, .inr (.inl re)))]) [5, 0, 1, 2, 6, 3, 7, 4] rfl
                  have hDc := hD.sub (ws' := [(h, .inr (10, [.ref odA, .int (nI k), .int (nI (szN LN (asL L AA))), .int (nI (un + (if 2 ≤ cnt (frB re gou nn) nn then 1 else 0))), tx_stranded, .int (nI dn), tx_stock, tx_changes, .ref ln, tx_loaded, tx_version, tx_loadedFile, .ref trA, tx_slots, .int (nI nn), .ref reA, tx_deleters, .ref goA, .ref waA])), (ln, .inr (4, [ln_at, .ref llA, ln_change, ln_place, ln_up, ln_down, ln_ofFile, ln_total])), (llA, .inl (cI, 4000, .inl S.ll)), (trA, .inl (cI, 400, .inl rw9)), (goA, .inl (cI, 400, .inl gou)), (odA, .inl (cI, 400, .inl odu)), (waA, .inl (cI, 400, .inl wtv)), (reA, .inl (cL, 2800, .inr (.inl re)))]) [5, 0, 1, 2, 6, 3, 7, 4] (by decide) rfl
                  have hFc := va_free (wc := [(h, .inr (10, [.ref odA, .int (nI k), .int (nI (szN LN (asL L AA))), .int (nI (un + (if 2 ≤ cnt (frB re gou nn) nn then 1 else 0))), tx_stranded, .int (nI dn), tx_stock, tx_changes, .ref ln, tx_loaded, tx_version, tx_loadedFile, .ref trA, tx_slots, .int (nI nn), .ref reA, tx_deleters, .ref goA, .ref waA])), (ln, .inr (4, [ln_at, .ref llA, ln_change, ln_place, ln_up, ln_down, ln_ofFile, ln_total])), (llA, .inl (cI, 4000, .inl S.ll)), (trA, .inl (cI, 400, .inl rw9)), (goA, .inl (cI, 400, .inl gou)), (odA, .inl (cI, 400, .inl odu)), (waA, .inl (cI, 400, .inl wtv)), (reA, .inl (cL, 2800, .inr (.inl re)))]) hD hS hA [5, 0, 1, 2, 6, 3, 7, 4] rfl
                  refine va_callv (va_runV (As := [.int (nI a9)]) (rest := []) ⟨hx, hb, hml, hown, hts⟩ (m_Tx_takeSlot l dC dI cI cB cL cZ cR h ln llA trA goA odA waA reA (.int (nI (un + (if 2 ≤ cnt (frB re gou nn) nn then 1 else 0)))) (tx_stranded) (.int (nI dn)) (tx_stock) (tx_changes) (tx_loaded) (tx_version) (tx_loadedFile) (tx_slots) (tx_deleters) (ln_at) (ln_change) (ln_place) (ln_up) (ln_down) (ln_ofFile) (ln_total) S rw9 gou odu wtv re nn a9 k (szN LN (asL L AA)) (L.getD a9 0) (LN (L.getD a9 0)) H.size hnn hlf1 (by omega) (hrw a9 (by omega)) hx4 (hll _ hxm) hn5 (by omega)) (cwV 1 hts (xg_V gw_1110 gw_1112 (xg_p 53 (q := (⟨"PatchStore$Text", "takeSlot", "(I)V"⟩, 19)) (by decide +kernel)) gw_9 gw_1113) rfl rfl rfl (by decide +kernel) ⟨Nat.le_of_ble_eq_true rfl, Nat.le_of_ble_eq_true rfl⟩) ⟨xw_blind, va_recv hK hPc (ci := 10) (q0 := 0) rfl rfl, fun U hU hW => ⟨rfl, by rw [hU], by rw [hU]; exact hPc, va_K.moved hW.alike hK, hDc.weaken (fun _ _ _ _ => trivial)⟩⟩ rfl rfl hl.1 rfl (lv_room (Nat.le_of_ble_eq_true rfl)) d_Tx_takeLines_85 ⟨Nat.le_of_ble_eq_true rfl, Nat.le_of_ble_eq_true rfl⟩) hS (fun q _ h => hFc q h) hFc (fun u9 t H1 locs ht hvm hw hB hz1 hk1 hS => ?_)
                  obtain ⟨hP1, hK1, hD1⟩ := hB
                  rw [ht] at hP1
                  obtain ⟨hP, hD⟩ := va_join (wr := []) (w1 := [(h, .inr (10, [.ref odA, .int (nI (k + 1)), .int (nI (szN LN (asL L AA) + LN (L.getD a9 0))), .int (nI (un + (if 2 ≤ cnt (frB re gou nn) nn then 1 else 0))), tx_stranded, .int (nI dn), tx_stock, tx_changes, .ref ln, tx_loaded, tx_version, tx_loadedFile, .ref trA, tx_slots, .int (nI nn), .ref reA, tx_deleters, .ref goA, .ref waA])), (ln, .inr (4, [ln_at, .ref llA, ln_change, ln_place, ln_up, ln_down, ln_ofFile, ln_total])), (llA, .inl (cI, 4000, .inl S.ll)), (trA, .inl (cI, 400, .inl rw9)), (goA, .inl (cI, 400, .inl (upd gou a9 1))), (odA, .inl (cI, 400, .inl (upd odu k (nI (L.getD a9 0))))), (waA, .inl (cI, 400, .inl (wtU re gou wtv a9 nn))), (reA, .inl (cL, 2800, .inr (.inl re)))]) hP hD [5, 0, 1, 2, 6, 3, 7, 4] [] rfl rfl (by decide) (by decide) hk1 hFc hP1 hD1
                  generalize H1 = H at hP hS ⊢
                  have hP : va_P (dC, dI) classes [(h, .inr (10, [.ref odA, .int (nI (k + 1)), .int (nI (szN LN (asL L AA) + LN (L.getD a9 0))), .int (nI (un + (if 2 ≤ cnt (frB re gou nn) nn then 1 else 0))), tx_stranded, .int (nI dn), tx_stock, tx_changes, .ref ln, tx_loaded, tx_version, tx_loadedFile, .ref trA, tx_slots, .int (nI nn), .ref reA, tx_deleters, .ref goA, .ref waA])), (ln, .inr (4, [ln_at, .ref llA, ln_change, ln_place, ln_up, ln_down, ln_ofFile, ln_total])), (llA, .inl (cI, 4000, .inl S.ll)), (trA, .inl (cI, 400, .inl rw9)), (goA, .inl (cI, 400, .inl (upd gou a9 1))), (odA, .inl (cI, 400, .inl (upd odu k (nI (L.getD a9 0))))), (waA, .inl (cI, 400, .inl (wtU re gou wtv a9 nn))), (reA, .inl (cL, 2800, .inr (.inl re)))] H := hP
                  have hD : va_D A [(h, .inr (10, [.ref odA, .int (nI (k + 1)), .int (nI (szN LN (asL L AA) + LN (L.getD a9 0))), .int (nI (un + (if 2 ≤ cnt (frB re gou nn) nn then 1 else 0))), tx_stranded, .int (nI dn), tx_stock, tx_changes, .ref ln, tx_loaded, tx_version, tx_loadedFile, .ref trA, tx_slots, .int (nI nn), .ref reA, tx_deleters, .ref goA, .ref waA])), (ln, .inr (4, [ln_at, .ref llA, ln_change, ln_place, ln_up, ln_down, ln_ofFile, ln_total])), (llA, .inl (cI, 4000, .inl S.ll)), (trA, .inl (cI, 400, .inl rw9)), (goA, .inl (cI, 400, .inl (upd gou a9 1))), (odA, .inl (cI, 400, .inl (upd odu k (nI (L.getD a9 0))))), (waA, .inl (cI, 400, .inl (wtU re gou wtv a9 nn))), (reA, .inl (cL, 2800, .inr (.inl re)))] := hD
                  rw [show nI (szN LN (asL L AA) + LN (L.getD a9 0)) = nI (szN LN (asL L (AA ++ [a9]))) from congrArg nI (by rw [asL_app, szN_app])] at hP hD
                  refine lv_iinc (v := nI (k + 1)) (lv' := [(2, .int (nI (k + 1))), (3, .int (nI a9)), (0, .ref h), (1, .int (nI (nn - dn)))]) hx hb d_Tx_takeLines_88 hl (k := 3) rfl (by exact nI_add _ _) (by decide) rfl (fun ls hl => ?_)
                  refine lv_goto (tgt := 67) hx hb d_Tx_takeLines_91 (by decide) ?_
                  exact ih_67 (k + 1) (AA ++ [a9]) (upd gou a9 1) (upd odu k (nI (L.getD a9 0))) (wtU re gou wtv a9 nn) (un + (if 2 ≤ cnt (frB re gou nn) nn then 1 else 0)) _ _ _ (by omega) (by omega) (by rw [List.length_append, hAk]; rfl) (hwR.take hnn hlf1 (frB_go hlf2)) (by rw [← hg1, hgs.1, List.append_assoc, show (nn - dn) - k - 1 = (nn - dn) - (k + 1) by omega]; rfl) (by rw [← hg2, hgs.2, show (nn - dn) - k - 1 = (nn - dn) - (k + 1) by omega]; omega) (by rw [asL_app, ← hAk, ← asL_len L AA]; exact hod.push _) (by split <;> omega) hP hD hS (lv_sub hl [2, 3, 0] rfl)
        exact loop_67 _ 0 ([]) go od wtu 0 _ _ _ (Nat.lt_succ_self _) (Nat.zero_le _) (rfl) (fun a z z9 => hw1 a (by omega) z9) (rfl) (Nat.zero_add _) (arrL.nil _) (Nat.le_refl _) hP hD hS (lv_sub hl [2, 1, 0] rfl)
      · have n_7 : i < nn := Nat.lt_of_not_le (fun z => c_7 ((nI_leI (a := nn) (b := i) (by omega) (by omega)).mpr z))
        refine lv_aload_n hx hb d_Tx_takeLines_10 rfl (lv_at hl 0 rfl) ?_
        refine va_get (D := (dC, dI)) (ci := 10) (v := .ref waA) (C := R_Tx) (T := F_Tx) (N := 19) hx hb hts i_Tx hown hK hP 0 rfl rfl 18 (by decide) (hts _ gw_400) (fun _ h9 => h9) rfl d_Tx_takeLines_11 ?_
        refine lv_iload_n hx hb d_Tx_takeLines_14 rfl (lv_at hl 1 rfl) ?_
        refine lv_aload_n hx hb d_Tx_takeLines_15 rfl (lv_at hl 0 rfl) ?_
        refine va_get (D := (dC, dI)) (ci := 10) (v := .ref goA) (C := R_Tx) (T := F_Tx) (N := 19) hx hb hts i_Tx hown hK hP 0 rfl rfl 17 (by decide) (hts _ gw_399) (fun _ h9 => h9) rfl d_Tx_takeLines_16 ?_
        refine lv_iload_n hx hb d_Tx_takeLines_19 rfl (lv_at hl 1 rfl) ?_
        refine va_iald hx hb hK hP 4 0 rfl rfl (vp_in_nI (by omega) (by omega)) d_Tx_takeLines_20 ?_
        rw [show (nI i).toNatClampNeg = i from nI_clamp (by omega)]
        refine lv_if_eq (tgt := 28) hx hb d_Tx_takeLines_21 (by decide) (fun c_21 => ?_) (fun c_21 => ?_)
        · refine lv_aload_n hx hb d_Tx_takeLines_28 rfl (lv_at hl 0 rfl) ?_
          refine lv_iload_n hx hb d_Tx_takeLines_29 rfl (lv_at hl 1 rfl) ?_
          have hPc := hP.sub (ws' := [(h, .inr (10, [.ref odA, tx_length, tx_size, tx_unsure, tx_stranded, .int (nI dn), tx_stock, tx_changes, .ref ln, tx_loaded, tx_version, tx_loadedFile, .ref trA, tx_slots, .int (nI nn), .ref reA, tx_deleters, .ref goA, .ref waA])), (goA, .inl (cI, 400, .inl go)), (reA, .inl (cL, 2800, .inr (.inl re)))]) [0, 4, 7] rfl
          have hDc := hD.sub (ws' := [(h, .inr (10, [.ref odA, tx_length, tx_size, tx_unsure, tx_stranded, .int (nI dn), tx_stock, tx_changes, .ref ln, tx_loaded, tx_version, tx_loadedFile, .ref trA, tx_slots, .int (nI nn), .ref reA, tx_deleters, .ref goA, .ref waA])), (goA, .inl (cI, 400, .inl go)), (reA, .inl (cL, 2800, .inr (.inl re)))]) [0, 4, 7] (by decide) rfl
          have hFc := va_free (wc := [(h, .inr (10, [.ref odA, tx_length, tx_size, tx_unsure, tx_stranded, .int (nI dn), tx_stock, tx_changes, .ref ln, tx_loaded, tx_version, tx_loadedFile, .ref trA, tx_slots, .int (nI nn), .ref reA, tx_deleters, .ref goA, .ref waA])), (goA, .inl (cI, 400, .inl go)), (reA, .inl (cL, 2800, .inr (.inl re)))]) hD hS hA [0, 4, 7] rfl
          refine va_calli (va_runV (As := [.int (nI i)]) (rest := [.int (nI i), .ref waA]) ⟨hx, hb, hml, hown, hts⟩ (m_Tx_countWaits l dC dI cI cB cL cZ cR h goA reA (.ref odA) (tx_length) (tx_size) (tx_unsure) (tx_stranded) (.int (nI dn)) (tx_stock) (tx_changes) (.ref ln) (tx_loaded) (tx_version) (tx_loadedFile) (.ref trA) (tx_slots) (tx_deleters) (.ref waA) go re nn i H.size hnn n_7) (cwV 1 hts (xg_V gw_1098 gw_1100 (xg_p 50 (q := (⟨"PatchStore$Text", "countWaits", "(I)I"⟩, 19)) (by decide +kernel)) gw_9 gw_1101) rfl rfl rfl (by decide +kernel) ⟨Nat.le_of_ble_eq_true rfl, Nat.le_of_ble_eq_true rfl⟩) ⟨xw_blind, va_recv hK hPc (ci := 10) (q0 := 0) rfl rfl, fun U hU hW => ⟨rfl, by rw [hU], by rw [hU]; exact hPc, va_K.moved hW.alike hK, hDc.weaken (fun _ _ _ _ => trivial)⟩⟩ rfl rfl hl.1 rfl (lv_room (Nat.le_of_ble_eq_true rfl)) d_Tx_takeLines_30 ⟨Nat.le_of_ble_eq_true rfl, Nat.le_of_ble_eq_true rfl⟩) hS (fun q _ h => hFc q h) hFc (fun r9 u t H1 locs ht hvm hw hB hz1 hk1 hS => ?_)
          obtain ⟨hP1, hK1, hD1⟩ := hB
          rw [ht] at hP1
          obtain ⟨hP, hD⟩ := va_join (wr := [(ln, .inr (4, [ln_at, .ref llA, ln_change, ln_place, ln_up, ln_down, ln_ofFile, ln_total])), (llA, .inl (cI, 4000, .inl S.ll)), (trA, .inl (cI, 400, .inl rw9)), (odA, .inl (cI, 400, .inl od)), (waA, .inl (cI, 400, .inl wtu))]) (w1 := [(h, .inr (10, [.ref odA, tx_length, tx_size, tx_unsure, tx_stranded, .int (nI dn), tx_stock, tx_changes, .ref ln, tx_loaded, tx_version, tx_loadedFile, .ref trA, tx_slots, .int (nI nn), .ref reA, tx_deleters, .ref goA, .ref waA])), (goA, .inl (cI, 400, .inl go)), (reA, .inl (cL, 2800, .inr (.inl re)))]) hP hD [0, 4, 7] [1, 2, 3, 5, 6] rfl rfl (by decide) (by decide) hk1 hFc hP1 hD1
          generalize H1 = H at hP hS ⊢
          have hP : va_P (dC, dI) classes [(ln, .inr (4, [ln_at, .ref llA, ln_change, ln_place, ln_up, ln_down, ln_ofFile, ln_total])), (llA, .inl (cI, 4000, .inl S.ll)), (trA, .inl (cI, 400, .inl rw9)), (odA, .inl (cI, 400, .inl od)), (waA, .inl (cI, 400, .inl wtu)), (h, .inr (10, [.ref odA, tx_length, tx_size, tx_unsure, tx_stranded, .int (nI dn), tx_stock, tx_changes, .ref ln, tx_loaded, tx_version, tx_loadedFile, .ref trA, tx_slots, .int (nI nn), .ref reA, tx_deleters, .ref goA, .ref waA])), (goA, .inl (cI, 400, .inl go)), (reA, .inl (cL, 2800, .inr (.inl re)))] H := hP
          have hD : va_D A [(ln, .inr (4, [ln_at, .ref llA, ln_change, ln_place, ln_up, ln_down, ln_ofFile, ln_total])), (llA, .inl (cI, 4000, .inl S.ll)), (trA, .inl (cI, 400, .inl rw9)), (odA, .inl (cI, 400, .inl od)), (waA, .inl (cI, 400, .inl wtu)), (h, .inr (10, [.ref odA, tx_length, tx_size, tx_unsure, tx_stranded, .int (nI dn), tx_stock, tx_changes, .ref ln, tx_loaded, tx_version, tx_loadedFile, .ref trA, tx_slots, .int (nI nn), .ref reA, tx_deleters, .ref goA, .ref waA])), (goA, .inl (cI, 400, .inl go)), (reA, .inl (cL, 2800, .inr (.inl re)))] := hD
          subst hw
          refine va_iast hx hb hK hP hD hS 4 0 rfl rfl (vp_in_nI (by omega) (by omega)) d_Tx_takeLines_33 (fun H locs hP hD hS => ?_)
          rw [show (nI i).toNatClampNeg = i from nI_clamp (by omega)] at hP hD
          have hP : va_P (dC, dI) classes [(ln, .inr (4, [ln_at, .ref llA, ln_change, ln_place, ln_up, ln_down, ln_ofFile, ln_total])), (llA, .inl (cI, 4000, .inl S.ll)), (trA, .inl (cI, 400, .inl rw9)), (odA, .inl (cI, 400, .inl od)), (waA, .inl (cI, 400, .inl (upd wtu i (nI (wtN re go nn i))))), (h, .inr (10, [.ref odA, tx_length, tx_size, tx_unsure, tx_stranded, .int (nI dn), tx_stock, tx_changes, .ref ln, tx_loaded, tx_version, tx_loadedFile, .ref trA, tx_slots, .int (nI nn), .ref reA, tx_deleters, .ref goA, .ref waA])), (goA, .inl (cI, 400, .inl go)), (reA, .inl (cL, 2800, .inr (.inl re)))] H := hP
          have hD : va_D A [(ln, .inr (4, [ln_at, .ref llA, ln_change, ln_place, ln_up, ln_down, ln_ofFile, ln_total])), (llA, .inl (cI, 4000, .inl S.ll)), (trA, .inl (cI, 400, .inl rw9)), (odA, .inl (cI, 400, .inl od)), (waA, .inl (cI, 400, .inl (upd wtu i (nI (wtN re go nn i))))), (h, .inr (10, [.ref odA, tx_length, tx_size, tx_unsure, tx_stranded, .int (nI dn), tx_stock, tx_changes, .ref ln, tx_loaded, tx_version, tx_loadedFile, .ref trA, tx_slots, .int (nI nn), .ref reA, tx_deleters, .ref goA, .ref waA])), (goA, .inl (cI, 400, .inl go)), (reA, .inl (cL, 2800, .inr (.inl re)))] := hD
          refine lv_iinc (v := nI (i + 1)) (lv' := [(1, .int (nI (i + 1))), (0, .ref h)]) hx hb d_Tx_takeLines_34 hl (k := 1) rfl (by exact nI_add _ _) (by decide) rfl (fun ls hl => ?_)
          refine lv_goto (tgt := 2) hx hb d_Tx_takeLines_37 (by decide) ?_
          exact ih_2 (i + 1) (upd wtu i (nI (wtN re go nn i))) _ _ _ (by omega) (by omega) (fun a z z9 => if e9 : a = i then by rw [e9, upd_eq] else (upd_ne _ e9).trans (hw1 a (by omega) z9)) (hP.sub [5, 0, 1, 2, 6, 3, 4, 7] rfl) (hD.sub [5, 0, 1, 2, 6, 3, 4, 7] (by decide) rfl) hS (lv_sub hl [1, 0] rfl)
        · refine lv_iconst (v := 0) hx hb d_Tx_takeLines_24 (by decide) ?_
          refine lv_goto (tgt := 33) hx hb d_Tx_takeLines_25 (by decide) ?_
          refine va_iast hx hb hK hP hD hS 6 0 rfl rfl (vp_in_nI (by omega) (by omega)) d_Tx_takeLines_33 (fun H locs hP hD hS => ?_)
          rw [show (nI i).toNatClampNeg = i from nI_clamp (by omega)] at hP hD
          have hP : va_P (dC, dI) classes [(h, .inr (10, [.ref odA, tx_length, tx_size, tx_unsure, tx_stranded, .int (nI dn), tx_stock, tx_changes, .ref ln, tx_loaded, tx_version, tx_loadedFile, .ref trA, tx_slots, .int (nI nn), .ref reA, tx_deleters, .ref goA, .ref waA])), (ln, .inr (4, [ln_at, .ref llA, ln_change, ln_place, ln_up, ln_down, ln_ofFile, ln_total])), (llA, .inl (cI, 4000, .inl S.ll)), (trA, .inl (cI, 400, .inl rw9)), (goA, .inl (cI, 400, .inl go)), (odA, .inl (cI, 400, .inl od)), (waA, .inl (cI, 400, .inl (upd wtu i 0))), (reA, .inl (cL, 2800, .inr (.inl re)))] H := hP
          have hD : va_D A [(h, .inr (10, [.ref odA, tx_length, tx_size, tx_unsure, tx_stranded, .int (nI dn), tx_stock, tx_changes, .ref ln, tx_loaded, tx_version, tx_loadedFile, .ref trA, tx_slots, .int (nI nn), .ref reA, tx_deleters, .ref goA, .ref waA])), (ln, .inr (4, [ln_at, .ref llA, ln_change, ln_place, ln_up, ln_down, ln_ofFile, ln_total])), (llA, .inl (cI, 4000, .inl S.ll)), (trA, .inl (cI, 400, .inl rw9)), (goA, .inl (cI, 400, .inl go)), (odA, .inl (cI, 400, .inl od)), (waA, .inl (cI, 400, .inl (upd wtu i 0))), (reA, .inl (cL, 2800, .inr (.inl re)))] := hD
          refine lv_iinc (v := nI (i + 1)) (lv' := [(1, .int (nI (i + 1))), (0, .ref h)]) hx hb d_Tx_takeLines_34 hl (k := 1) rfl (by exact nI_add _ _) (by decide) rfl (fun ls hl => ?_)
          refine lv_goto (tgt := 2) hx hb d_Tx_takeLines_37 (by decide) ?_
          exact ih_2 (i + 1) (upd wtu i 0) _ _ _ (by omega) (by omega) (fun a z z9 => if e9 : a = i then absurd (e9 ▸ z9) c_21 else (upd_ne _ e9).trans (hw1 a (by omega) z9)) hP hD hS (lv_sub hl [1, 0] rfl)
  exact loop_2 _ 0 wt _ _ _ (Nat.lt_succ_self _) (Nat.zero_le _) (fun a z => absurd z (Nat.not_lt_zero _)) hP hD hS (lv_sub hl [1, 0] rfl)
