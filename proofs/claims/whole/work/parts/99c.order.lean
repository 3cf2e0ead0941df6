section
/-! 99c.order.lean.txt -/
theorem gw_1098 : (Jvm.Cond.methodLink "PatchStore$Text" (176 : Nat) ({ cls := "PatchStore$Text", name := "countWaits", desc := "(I)I" } : Jvm.MethodName)) ∈ xg_1 := xg_s5 138 rfl rfl
theorem gw_1100 : (Jvm.Cond.instanceMethod ({ cls := "PatchStore$Text", name := "countWaits", desc := "(I)I" } : Jvm.MethodName)) ∈ xg_1 := xg_s5 140 rfl rfl
theorem gw_1101 : (Jvm.Cond.code ({ cls := "PatchStore$Text", name := "countWaits", desc := "(I)I" } : Jvm.MethodName) prog_11_method_16_code (4 : Nat) (Option.some Jvm.ClassFile.FieldType.int)) ∈ xg_1 := xg_s5 141 rfl rfl
theorem gw_1106 : (Jvm.Cond.methodLink "PatchStore$Text" (188 : Nat) ({ cls := "PatchStore$Text", name := "leastFree", desc := "()I" } : Jvm.MethodName)) ∈ xg_1 := xg_s5 146 rfl rfl
theorem gw_1108 : (Jvm.Cond.instanceMethod ({ cls := "PatchStore$Text", name := "leastFree", desc := "()I" } : Jvm.MethodName)) ∈ xg_1 := xg_s5 148 rfl rfl
theorem gw_1109 : (Jvm.Cond.code ({ cls := "PatchStore$Text", name := "leastFree", desc := "()I" } : Jvm.MethodName) prog_11_method_17_code (3 : Nat) (Option.some Jvm.ClassFile.FieldType.int)) ∈ xg_1 := xg_s5 149 rfl rfl
theorem gw_1110 : (Jvm.Cond.methodLink "PatchStore$Text" (192 : Nat) ({ cls := "PatchStore$Text", name := "takeSlot", desc := "(I)V" } : Jvm.MethodName)) ∈ xg_1 := xg_s5 150 rfl rfl
theorem gw_1112 : (Jvm.Cond.instanceMethod ({ cls := "PatchStore$Text", name := "takeSlot", desc := "(I)V" } : Jvm.MethodName)) ∈ xg_1 := xg_s5 152 rfl rfl
theorem gw_1113 : (Jvm.Cond.code ({ cls := "PatchStore$Text", name := "takeSlot", desc := "(I)V" } : Jvm.MethodName) prog_11_method_18_code (3 : Nat) (Option.none : Option Jvm.ClassFile.FieldType)) ∈ xg_1 := xg_s5 153 rfl rfl
def y_Tx_takeLines : MethodName := ⟨"PatchStore$Text", "takeLines", "()V"⟩
abbrev c_Tx_takeLines : Cond := (Jvm.Cond.code ({ cls := "PatchStore$Text", name := "takeLines", desc := "()V" } : Jvm.MethodName) prog_11_method_15_code (4 : Nat) (Option.none : Option Jvm.ClassFile.FieldType))
abbrev ws_Tx_takeLines : List Cond := c_Tx_takeLines :: xg_1
theorem d_Tx_takeLines_0 : decode prog_11_method_15_code 0 = .ok (.iconst 0, 1) := by decide +kernel
theorem d_Tx_takeLines_1 : decode prog_11_method_15_code 1 = .ok (.istore_n 1, 1) := by decide +kernel
theorem d_Tx_takeLines_2 : decode prog_11_method_15_code 2 = .ok (.iload_n 1, 1) := by decide +kernel
theorem d_Tx_takeLines_3 : decode prog_11_method_15_code 3 = .ok (.aload_n 0, 1) := by decide +kernel
theorem d_Tx_takeLines_4 : decode prog_11_method_15_code 4 = .ok (.getfield 97, 3) := by decide +kernel
theorem d_Tx_takeLines_7 : decode prog_11_method_15_code 7 = .ok (.if_icmp .ge 33, 3) := by decide +kernel
theorem d_Tx_takeLines_10 : decode prog_11_method_15_code 10 = .ok (.aload_n 0, 1) := by decide +kernel
theorem d_Tx_takeLines_11 : decode prog_11_method_15_code 11 = .ok (.getfield 31, 3) := by decide +kernel
theorem d_Tx_takeLines_14 : decode prog_11_method_15_code 14 = .ok (.iload_n 1, 1) := by decide +kernel
theorem d_Tx_takeLines_15 : decode prog_11_method_15_code 15 = .ok (.aload_n 0, 1) := by decide +kernel
theorem d_Tx_takeLines_16 : decode prog_11_method_15_code 16 = .ok (.getfield 28, 3) := by decide +kernel
theorem d_Tx_takeLines_19 : decode prog_11_method_15_code 19 = .ok (.iload_n 1, 1) := by decide +kernel
theorem d_Tx_takeLines_20 : decode prog_11_method_15_code 20 = .ok (.iaload, 1) := by decide +kernel
theorem d_Tx_takeLines_21 : decode prog_11_method_15_code 21 = .ok (.ifCond .eq 7, 3) := by decide +kernel
theorem d_Tx_takeLines_24 : decode prog_11_method_15_code 24 = .ok (.iconst 0, 1) := by decide +kernel
theorem d_Tx_takeLines_25 : decode prog_11_method_15_code 25 = .ok (.goto 8, 3) := by decide +kernel
theorem d_Tx_takeLines_28 : decode prog_11_method_15_code 28 = .ok (.aload_n 0, 1) := by decide +kernel
theorem d_Tx_takeLines_29 : decode prog_11_method_15_code 29 = .ok (.iload_n 1, 1) := by decide +kernel
theorem d_Tx_takeLines_30 : decode prog_11_method_15_code 30 = .ok (.invokevirtual 176, 3) := by decide +kernel
theorem d_Tx_takeLines_33 : decode prog_11_method_15_code 33 = .ok (.iastore, 1) := by decide +kernel
theorem d_Tx_takeLines_34 : decode prog_11_method_15_code 34 = .ok (.iinc 1 1, 3) := by decide +kernel
theorem d_Tx_takeLines_37 : decode prog_11_method_15_code 37 = .ok (.goto (-35), 3) := by decide +kernel
theorem d_Tx_takeLines_40 : decode prog_11_method_15_code 40 = .ok (.aload_n 0, 1) := by decide +kernel
theorem d_Tx_takeLines_41 : decode prog_11_method_15_code 41 = .ok (.iconst 0, 1) := by decide +kernel
theorem d_Tx_takeLines_42 : decode prog_11_method_15_code 42 = .ok (.putfield 179, 3) := by decide +kernel
theorem d_Tx_takeLines_45 : decode prog_11_method_15_code 45 = .ok (.aload_n 0, 1) := by decide +kernel
theorem d_Tx_takeLines_46 : decode prog_11_method_15_code 46 = .ok (.iconst 0, 1) := by decide +kernel
theorem d_Tx_takeLines_47 : decode prog_11_method_15_code 47 = .ok (.putfield 182, 3) := by decide +kernel
theorem d_Tx_takeLines_50 : decode prog_11_method_15_code 50 = .ok (.aload_n 0, 1) := by decide +kernel
theorem d_Tx_takeLines_51 : decode prog_11_method_15_code 51 = .ok (.iconst 0, 1) := by decide +kernel
theorem d_Tx_takeLines_52 : decode prog_11_method_15_code 52 = .ok (.putfield 185, 3) := by decide +kernel
theorem d_Tx_takeLines_55 : decode prog_11_method_15_code 55 = .ok (.aload_n 0, 1) := by decide +kernel
theorem d_Tx_takeLines_56 : decode prog_11_method_15_code 56 = .ok (.getfield 97, 3) := by decide +kernel
theorem d_Tx_takeLines_59 : decode prog_11_method_15_code 59 = .ok (.aload_n 0, 1) := by decide +kernel
theorem d_Tx_takeLines_60 : decode prog_11_method_15_code 60 = .ok (.getfield 153, 3) := by decide +kernel
theorem d_Tx_takeLines_63 : decode prog_11_method_15_code 63 = .ok (.isub, 1) := by decide +kernel
theorem d_Tx_takeLines_64 : decode prog_11_method_15_code 64 = .ok (.istore_n 1, 1) := by decide +kernel
theorem d_Tx_takeLines_65 : decode prog_11_method_15_code 65 = .ok (.iconst 0, 1) := by decide +kernel
theorem d_Tx_takeLines_66 : decode prog_11_method_15_code 66 = .ok (.istore_n 2, 1) := by decide +kernel
theorem d_Tx_takeLines_67 : decode prog_11_method_15_code 67 = .ok (.iload_n 2, 1) := by decide +kernel
theorem d_Tx_takeLines_68 : decode prog_11_method_15_code 68 = .ok (.iload_n 1, 1) := by decide +kernel
theorem d_Tx_takeLines_69 : decode prog_11_method_15_code 69 = .ok (.if_icmp .ge 25, 3) := by decide +kernel
theorem d_Tx_takeLines_72 : decode prog_11_method_15_code 72 = .ok (.aload_n 0, 1) := by decide +kernel
theorem d_Tx_takeLines_73 : decode prog_11_method_15_code 73 = .ok (.invokevirtual 188, 3) := by decide +kernel
theorem d_Tx_takeLines_76 : decode prog_11_method_15_code 76 = .ok (.istore_n 3, 1) := by decide +kernel
theorem d_Tx_takeLines_77 : decode prog_11_method_15_code 77 = .ok (.iload_n 3, 1) := by decide +kernel
theorem d_Tx_takeLines_78 : decode prog_11_method_15_code 78 = .ok (.iconst (-1), 1) := by decide +kernel
theorem d_Tx_takeLines_79 : decode prog_11_method_15_code 79 = .ok (.if_icmp .ne 4, 3) := by decide +kernel
theorem d_Tx_takeLines_82 : decode prog_11_method_15_code 82 = .ok (.return_, 1) := by decide +kernel
theorem d_Tx_takeLines_83 : decode prog_11_method_15_code 83 = .ok (.aload_n 0, 1) := by decide +kernel
theorem d_Tx_takeLines_84 : decode prog_11_method_15_code 84 = .ok (.iload_n 3, 1) := by decide +kernel
theorem d_Tx_takeLines_85 : decode prog_11_method_15_code 85 = .ok (.invokevirtual 192, 3) := by decide +kernel
theorem d_Tx_takeLines_88 : decode prog_11_method_15_code 88 = .ok (.iinc 2 1, 3) := by decide +kernel
theorem d_Tx_takeLines_91 : decode prog_11_method_15_code 91 = .ok (.goto (-24), 3) := by decide +kernel
theorem d_Tx_takeLines_94 : decode prog_11_method_15_code 94 = .ok (.return_, 1) := by decide +kernel
theorem lfO_cnt {b : Nat → Bool} {n : Nat} (h : lfO b n = none) : cnt b n = 0 := cnt_zero n (lfO_none h)
/-- the order of the slots -/
def gL (re : Nat → Int64) (n k : Nat) (go : Nat → Int32) : List Nat := (grd re n k go).1
/-- how often there was another -/
def gU (re : Nat → Int64) (n k : Nat) (go : Nat → Int32) : Nat := (grd re n k go).2
theorem gL_none {re : Nat → Int64} {n k : Nat} {go : Nat → Int32} (h : lfO (frB re go n) n = none) (hk : 0 < k) : gL re n k go = [] ∧ gU re n k go = 0 := by
  obtain ⟨j, rfl⟩ : ∃ j, k = j + 1 := ⟨k - 1, by omega⟩
  unfold gL gU
  rw [grd_none h]
  exact ⟨rfl, rfl⟩
theorem gL_some {re : Nat → Int64} {n k a : Nat} {go : Nat → Int32} (h : lfO (frB re go n) n = some a) (hk : 0 < k) : gL re n k go = a :: gL re n (k - 1) (upd go a 1) ∧ gU re n k go = gU re n (k - 1) (upd go a 1) + (if 2 ≤ cnt (frB re go n) n then 1 else 0) := by
  obtain ⟨j, rfl⟩ : ∃ j, k = j + 1 := ⟨k - 1, by omega⟩
  unfold gL gU
  rw [grd_some h, Nat.add_sub_cancel]
  exact ⟨rfl, rfl⟩
theorem gL_zero (re : Nat → Int64) (n : Nat) (go : Nat → Int32) : gL re n 0 go = [] ∧ gU re n 0 go = 0 := ⟨rfl, rfl⟩
/-- the slots as lines -/
def asL (L A : List Nat) : List Nat := A.map (fun a => L.getD a 0)
theorem asL_app (L A : List Nat) (x : Nat) : asL L (A ++ [x]) = asL L A ++ [L.getD x 0] := by
  unfold asL
  rw [List.map_append]; rfl
theorem asL_len (L A : List Nat) : (asL L A).length = A.length := List.length_map _
theorem frB_go {re : Nat → Int64} {go : Nat → Int32} {n a : Nat} (h : frB re go n a = true) : go a = 0 := by
  unfold frB at h
  rw [Bool.and_eq_true, beq_iff_eq] at h
  exact h.1
set_option maxHeartbeats 4000000 in
set_option maxRecDepth 100000 in
/-- the lines are taken -/
theorem m_Tx_takeLines (l : Launch) (dC : Nat → ClassId) (dI : Nat → Nat → Nat) (cI cB cL cZ cR : ClassId) (h ln llA trA goA odA waA reA : Nat) (tx_length tx_size tx_unsure tx_stranded tx_stock tx_changes tx_loaded tx_version tx_loadedFile tx_slots tx_deleters ln_at ln_change ln_place ln_up ln_down ln_ofFile ln_total : Value) (S : Stk) (rw9 go od wt : Nat → Int32) (re : Nat → Int64) (L : List Nat) (LN : Nat → Nat) (nn dn : Nat) (sz : Nat) (hnn : nn ≤ 400) (hLl : L.length = nn) (hdn : dn ≤ nn) (hrw : arrL rw9 L) (hL5 : ∀ x, x ∈ L → x < 4000) (hll : ∀ x, x ∈ L → S.ll x = nI (LN x)) (hLN : ∀ x, LN x ≤ 500) : Met l y_Tx_takeLines ws_Tx_takeLines ({ frames := 2, cells := 0, slots := 0, locals := 120 }) (xw_Pc dC dI [(cI, .int), (cB, .byte), (cL, .long), (cZ, .boolean), (cR, .object "PatchStore$Repository")] [.ref h] [(h, .inr (10, [.ref odA, tx_length, tx_size, tx_unsure, tx_stranded, .int (nI dn), tx_stock, tx_changes, .ref ln, tx_loaded, tx_version, tx_loadedFile, .ref trA, tx_slots, .int (nI nn), .ref reA, tx_deleters, .ref goA, .ref waA])), (ln, .inr (4, [ln_at, .ref llA, ln_change, ln_place, ln_up, ln_down, ln_ofFile, ln_total])), (llA, .inl (cI, 4000, .inl S.ll)), (trA, .inl (cI, 400, .inl rw9)), (goA, .inl (cI, 400, .inl go)), (odA, .inl (cI, 400, .inl od)), (waA, .inl (cI, 400, .inl wt)), (reA, .inl (cL, 2800, .inr (.inl re)))] sz) (va_Qv (fun u : (Nat → Int32) × (Nat → Int32) × (Nat → Int32) => arrL u.2.1 (asL L (gL re nn (nn - dn) go))) (fun u t => xw_B dC dI [(cI, .int), (cB, .byte), (cL, .long), (cZ, .boolean), (cR, .object "PatchStore$Repository")] (va_A [(h, .inr (10, [.ref odA, tx_length, tx_size, tx_unsure, tx_stranded, .int (nI dn), tx_stock, tx_changes, .ref ln, tx_loaded, tx_version, tx_loadedFile, .ref trA, tx_slots, .int (nI nn), .ref reA, tx_deleters, .ref goA, .ref waA])), (ln, .inr (4, [ln_at, .ref llA, ln_change, ln_place, ln_up, ln_down, ln_ofFile, ln_total])), (llA, .inl (cI, 4000, .inl S.ll)), (trA, .inl (cI, 400, .inl rw9)), (goA, .inl (cI, 400, .inl go)), (odA, .inl (cI, 400, .inl od)), (waA, .inl (cI, 400, .inl wt)), (reA, .inl (cL, 2800, .inr (.inl re)))] sz) [(h, .inr (10, [.ref odA, .int (nI ((gL re nn (nn - dn) go).length)), .int (nI (szN LN (asL L (gL re nn (nn - dn) go)))), .int (nI (gU re nn (nn - dn) go)), tx_stranded, .int (nI dn), tx_stock, tx_changes, .ref ln, tx_loaded, tx_version, tx_loadedFile, .ref trA, tx_slots, .int (nI nn), .ref reA, tx_deleters, .ref goA, .ref waA])), (ln, .inr (4, [ln_at, .ref llA, ln_change, ln_place, ln_up, ln_down, ln_ofFile, ln_total])), (llA, .inl (cI, 4000, .inl S.ll)), (trA, .inl (cI, 400, .inl rw9)), (goA, .inl (cI, 400, .inl u.1)), (odA, .inl (cI, 400, .inl u.2.1)), (waA, .inl (cI, 400, .inl u.2.2)), (reA, .inl (cL, 2800, .inr (.inl re)))] t) (va_A [(h, .inr (10, [.ref odA, tx_length, tx_size, tx_unsure, tx_stranded, .int (nI dn), tx_stock, tx_changes, .ref ln, tx_loaded, tx_version, tx_loadedFile, .ref trA, tx_slots, .int (nI nn), .ref reA, tx_deleters, .ref goA, .ref waA])), (ln, .inr (4, [ln_at, .ref llA, ln_change, ln_place, ln_up, ln_down, ln_ofFile, ln_total])), (llA, .inl (cI, 4000, .inl S.ll)), (trA, .inl (cI, 400, .inl rw9)), (goA, .inl (cI, 400, .inl go)), (odA, .inl (cI, 400, .inl od)), (waA, .inl (cI, 400, .inl wt)), (reA, .inl (cL, 2800, .inr (.inl re)))] sz)) 0 0 (va_A [(h, .inr (10, [.ref odA, tx_length, tx_size, tx_unsure, tx_stranded, .int (nI dn), tx_stock, tx_changes, .ref ln, tx_loaded, tx_version, tx_loadedFile, .ref trA, tx_slots, .int (nI nn), .ref reA, tx_deleters, .ref goA, .ref waA])), (ln, .inr (4, [ln_at, .ref llA, ln_change, ln_place, ln_up, ln_down, ln_ofFile, ln_total])), (llA, .inl (cI, 4000, .inl S.ll)), (trA, .inl (cI, 400, .inl rw9)), (goA, .inl (cI, 400, .inl go)), (odA, .inl (cI, 400, .inl od)), (waA, .inl (cI, 400, .inl wt)), (reA, .inl (cL, 2800, .inr (.inl re)))] sz) := by
  refine Met.ofW (cc := prog_11_method_15_code) (maxL := 4) (ret := none) (by decide) rfl ?_
  intro p e s m args below meth c s₁ B hml hv
  obtain ⟨rfl, hsz, hP, hK, hD0⟩ := hv
  have hx := B.exec
  have hb := B.bytes
  have hr := B.returns
  have hts0 := atoms_spec (ws := ws_Tx_takeLines) B.pre
  have hts : ∀ w ∈ xg_1, w.before _ s = true := fun w h => hts0 w (List.mem_cons_of_mem _ h)
  have hown : s.vm.findClass "PatchStore$Text" = some m.cls := findClass_of_methodNamed B.named
  have hlocks := B.notSynchronized
  subst hsz
  have hD := hD0.self (sz := s.heap.size)
  generalize hAe : va_A [(h, .inr (10, [.ref odA, tx_length, tx_size, tx_unsure, tx_stranded, .int (nI dn), tx_stock, tx_changes, .ref ln, tx_loaded, tx_version, tx_loadedFile, .ref trA, tx_slots, .int (nI nn), .ref reA, tx_deleters, .ref goA, .ref waA])), (ln, .inr (4, [ln_at, .ref llA, ln_change, ln_place, ln_up, ln_down, ln_ofFile, ln_total])), (llA, .inl (cI, 4000, .inl S.ll)), (trA, .inl (cI, 400, .inl rw9)), (goA, .inl (cI, 400, .inl go)), (odA, .inl (cI, 400, .inl od)), (waA, .inl (cI, 400, .inl wt)), (reA, .inl (cL, 2800, .inr (.inl re)))] s.heap.size = A at hD ⊢
  have hA : ∀ q : Nat, s.heap.size ≤ q → A q := fun q h => by rw [← hAe]; exact Or.inr h
  have hS : va_S A s.heap s.heap [] := va_S.rf
  have hl := lv_entry ([.ref h]) (n := 4) (Nat.le_of_ble_eq_true rfl)
  rw [lg_entry_eq]
  generalize (lg_sl ([.ref h]) ++ List.replicate (4 - (lg_sl ([.ref h])).length) Slot.unset).toArray = ls at hl ⊢
  have hl : lv_has ls 4 [(0, .ref h)] := hl
  generalize hQe : MQ _ _ _ _ _ _ _ = Q
  refine lv_iconst (v := 0) hx hb d_Tx_takeLines_0 (by decide) ?_
  refine lv_istore_n (lv' := [(1, .int 0), (0, .ref h)]) hx hb d_Tx_takeLines_1 rfl hl (by decide) rfl (fun ls hl => ?_)
  have loop_2 : ∀ (n9 : Nat) (i : Nat) (wtu : Nat → Int32) (H : Heap) (locs : List Loc) (ls : Array Slot), nn - i < n9 → (i ≤ nn) → (∀ a, a < i → go a = 0 → wtu a = nI (wtN re go nn a)) → va_P (dC, dI) classes [(h, .inr (10, [.ref odA, tx_length, tx_size, tx_unsure, tx_stranded, .int (nI dn), tx_stock, tx_changes, .ref ln, tx_loaded, tx_version, tx_loadedFile, .ref trA, tx_slots, .int (nI nn), .ref reA, tx_deleters, .ref goA, .ref waA])), (ln, .inr (4, [ln_at, .ref llA, ln_change, ln_place, ln_up, ln_down, ln_ofFile, ln_total])), (llA, .inl (cI, 4000, .inl S.ll)), (trA, .inl (cI, 400, .inl rw9)), (goA, .inl (cI, 400, .inl go)), (odA, .inl (cI, 400, .inl od)), (waA, .inl (cI, 400, .inl wtu)), (reA, .inl (cL, 2800, .inr (.inl re)))] H → va_D A [(h, .inr (10, [.ref odA, tx_length, tx_size, tx_unsure, tx_stranded, .int (nI dn), tx_stock, tx_changes, .ref ln, tx_loaded, tx_version, tx_loadedFile, .ref trA, tx_slots, .int (nI nn), .ref reA, tx_deleters, .ref goA, .ref waA])), (ln, .inr (4, [ln_at, .ref llA, ln_change, ln_place, ln_up, ln_down, ln_ofFile, ln_total])), (llA, .inl (cI, 4000, .inl S.ll)), (trA, .inl (cI, 400, .inl rw9)), (goA, .inl (cI, 400, .inl go)), (odA, .inl (cI, 400, .inl od)), (waA, .inl (cI, 400, .inl wtu)), (reA, .inl (cL, 2800, .inr (.inl re)))] → va_S A s.heap H locs → lv_has ls 4 [(0, .ref h), (1, .int (nI i))] → W p l e (headSpec ws_Tx_takeLines ({ frames := 2, cells := 0, slots := 0, locals := 120 })).room s m ([.ref h] : List Value).toArray below meth c H locs 0 0 Q (F0 m 2 ls []) := by
    intro n9
    induction n9 with
    | zero => intro i wtu H locs ls hm; exact absurd hm (Nat.not_lt_zero _)
    | succ n9 ih_2 =>
      intro i wtu H locs ls hm hi hw1 hP hD hS hl
      refine lv_iload_n hx hb d_Tx_takeLines_2 rfl (lv_at hl 1 rfl) ?_
      refine lv_aload_n hx hb d_Tx_takeLines_3 rfl (lv_at hl 0 rfl) ?_
      refine va_get (D := (dC, dI)) (ci := 10) (v := .int (nI nn)) (C := R_Tx) (T := F_Tx) (N := 19) hx hb hts i_Tx hown hK hP 0 rfl rfl 14 (by decide) (hts _ gw_396) (fun _ h9 => h9) rfl d_Tx_takeLines_4 ?_
      refine lv_icmp_ge (tgt := 40) hx hb d_Tx_takeLines_7 (by decide) (fun c_7 => ?_) (fun c_7 => ?_)
      · have n_7 : nn ≤ i := (nI_leI (a := nn) (b := i) (by omega) (by omega)).mp c_7
        refine lv_aload_n hx hb d_Tx_takeLines_40 rfl (lv_at hl 0 rfl) ?_
        refine lv_iconst (v := 0) hx hb d_Tx_takeLines_41 (by decide) ?_
        refine va_put (D := (dC, dI)) (ci := 10) (v := .int 0) (ty := .int) (C := R_Tx) (T := F_Tx) (N := 19) hx hb hts i_Tx t_Tx t_Tx_ok n_Tx hown hK hP hD hS 0 rfl rfl 1 (by decide) (hts _ gw_379) (fun _ h9 => h9) rfl (by decide +kernel) rfl rfl (Nat.le_of_ble_eq_true rfl) d_Tx_takeLines_42 (fun H locs hP hD hS => ?_)
        have hP : va_P (dC, dI) classes [(h, .inr (10, [.ref odA, .int 0, tx_size, tx_unsure, tx_stranded, .int (nI dn), tx_stock, tx_changes, .ref ln, tx_loaded, tx_version, tx_loadedFile, .ref trA, tx_slots, .int (nI nn), .ref reA, tx_deleters, .ref goA, .ref waA])), (ln, .inr (4, [ln_at, .ref llA, ln_change, ln_place, ln_up, ln_down, ln_ofFile, ln_total])), (llA, .inl (cI, 4000, .inl S.ll)), (trA, .inl (cI, 400, .inl rw9)), (goA, .inl (cI, 400, .inl go)), (odA, .inl (cI, 400, .inl od)), (waA, .inl (cI, 400, .inl wtu)), (reA, .inl (cL, 2800, .inr (.inl re)))] H := hP
        have hD : va_D A [(h, .inr (10, [.ref odA, .int 0, tx_size, tx_unsure, tx_stranded, .int (nI dn), tx_stock, tx_changes, .ref ln, tx_loaded, tx_version, tx_loadedFile, .ref trA, tx_slots, .int (nI nn), .ref reA, tx_deleters, .ref goA, .ref waA])), (ln, .inr (4, [ln_at, .ref llA, ln_change, ln_place, ln_up, ln_down, ln_ofFile, ln_total])), (llA, .inl (cI, 4000, .inl S.ll)), (trA, .inl (cI, 400, .inl rw9)), (goA, .inl (cI, 400, .inl go)), (odA, .inl (cI, 400, .inl od)), (waA, .inl (cI, 400, .inl wtu)), (reA, .inl (cL, 2800, .inr (.inl re)))] := hD
        refine lv_aload_n hx hb d_Tx_takeLines_45 rfl (lv_at hl 0 rfl) ?_
        refine lv_iconst (v := 0) hx hb d_Tx_takeLines_46 (by decide) ?_
        refine va_put (D := (dC, dI)) (ci := 10) (v := .int 0) (ty := .int) (C := R_Tx) (T := F_Tx) (N := 19) hx hb hts i_Tx t_Tx t_Tx_ok n_Tx hown hK hP hD hS 0 rfl rfl 2 (by decide) (hts _ gw_380) (fun _ h9 => h9) rfl (by decide +kernel) rfl rfl (Nat.le_of_ble_eq_true rfl) d_Tx_takeLines_47 (fun H locs hP hD hS => ?_)
        have hP : va_P (dC, dI) classes [(h, .inr (10, [.ref odA, .int 0, .int 0, tx_unsure, tx_stranded, .int (nI dn), tx_stock, tx_changes, .ref ln, tx_loaded, tx_version, tx_loadedFile, .ref trA, tx_slots, .int (nI nn), .ref reA, tx_deleters, .ref goA, .ref waA])), (ln, .inr (4, [ln_at, .ref llA, ln_change, ln_place, ln_up, ln_down, ln_ofFile, ln_total])), (llA, .inl (cI, 4000, .inl S.ll)), (trA, .inl (cI, 400, .inl rw9)), (goA, .inl (cI, 400, .inl go)), (odA, .inl (cI, 400, .inl od)), (waA, .inl (cI, 400, .inl wtu)), (reA, .inl (cL, 2800, .inr (.inl re)))] H := hP
        have hD : va_D A [(h, .inr (10, [.ref odA, .int 0, .int 0, tx_unsure, tx_stranded, .int (nI dn), tx_stock, tx_changes, .ref ln, tx_loaded, tx_version, tx_loadedFile, .ref trA, tx_slots, .int (nI nn), .ref reA, tx_deleters, .ref goA, .ref waA])), (ln, .inr (4, [ln_at, .ref llA, ln_change, ln_place, ln_up, ln_down, ln_ofFile, ln_total])), (llA, .inl (cI, 4000, .inl S.ll)), (trA, .inl (cI, 400, .inl rw9)), (goA, .inl (cI, 400, .inl go)), (odA, .inl (cI, 400, .inl od)), (waA, .inl (cI, 400, .inl wtu)), (reA, .inl (cL, 2800, .inr (.inl re)))] := hD
        refine lv_aload_n hx hb d_Tx_takeLines_50 rfl (lv_at hl 0 rfl) ?_
        refine lv_iconst (v := 0) hx hb d_Tx_takeLines_51 (by decide) ?_
        refine va_put (D := (dC, dI)) (ci := 10) (v := .int 0) (ty := .int) (C := R_Tx) (T := F_Tx) (N := 19) hx hb hts i_Tx t_Tx t_Tx_ok n_Tx hown hK hP hD hS 0 rfl rfl 3 (by decide) (hts _ gw_382) (fun _ h9 => h9) rfl (by decide +kernel) rfl rfl (Nat.le_of_ble_eq_true rfl) d_Tx_takeLines_52 (fun H locs hP hD hS => ?_)
        have hP : va_P (dC, dI) classes [(h, .inr (10, [.ref odA, .int 0, .int 0, .int 0, tx_stranded, .int (nI dn), tx_stock, tx_changes, .ref ln, tx_loaded, tx_version, tx_loadedFile, .ref trA, tx_slots, .int (nI nn), .ref reA, tx_deleters, .ref goA, .ref waA])), (ln, .inr (4, [ln_at, .ref llA, ln_change, ln_place, ln_up, ln_down, ln_ofFile, ln_total])), (llA, .inl (cI, 4000, .inl S.ll)), (trA, .inl (cI, 400, .inl rw9)), (goA, .inl (cI, 400, .inl go)), (odA, .inl (cI, 400, .inl od)), (waA, .inl (cI, 400, .inl wtu)), (reA, .inl (cL, 2800, .inr (.inl re)))] H := hP
        have hD : va_D A [(h, .inr (10, [.ref odA, .int 0, .int 0, .int 0, tx_stranded, .int (nI dn), tx_stock, tx_changes, .ref ln, tx_loaded, tx_version, tx_loadedFile, .ref trA, tx_slots, .int (nI nn), .ref reA, tx_deleters, .ref goA, .ref waA])), (ln, .inr (4, [ln_at, .ref llA, ln_change, ln_place, ln_up, ln_down, ln_ofFile, ln_total])), (llA, .inl (cI, 4000, .inl S.ll)), (trA, .inl (cI, 400, .inl rw9)), (goA, .inl (cI, 400, .inl go)), (odA, .inl (cI, 400, .inl od)), (waA, .inl (cI, 400, .inl wtu)), (reA, .inl (cL, 2800, .inr (.inl re)))] := hD
        refine lv_aload_n hx hb d_Tx_takeLines_55 rfl (lv_at hl 0 rfl) ?_
        refine va_get (D := (dC, dI)) (ci := 10) (v := .int (nI nn)) (C := R_Tx) (T := F_Tx) (N := 19) hx hb hts i_Tx hown hK hP 0 rfl rfl 14 (by decide) (hts _ gw_396) (fun _ h9 => h9) rfl d_Tx_takeLines_56 ?_
        refine lv_aload_n hx hb d_Tx_takeLines_59 rfl (lv_at hl 0 rfl) ?_
        refine va_get (D := (dC, dI)) (ci := 10) (v := .int (nI dn)) (C := R_Tx) (T := F_Tx) (N := 19) hx hb hts i_Tx hown hK hP 0 rfl rfl 5 (by decide) (hts _ gw_386) (fun _ h9 => h9) rfl d_Tx_takeLines_60 ?_
        refine lv_isub hx hb d_Tx_takeLines_63 ?_
        refine lv_topi (fun x_1 ex_1 => ?_)
        obtain rfl : x_1 = nI (nn - dn) := by rw [ex_1]; first | done | (exact nI_subN hdn)
        refine lv_istore_n (lv' := [(1, .int (nI (nn - dn))), (0, .ref h)]) hx hb d_Tx_takeLines_64 rfl hl (by decide) rfl (fun ls hl => ?_)
        refine lv_iconst (v := 0) hx hb d_Tx_takeLines_65 (by decide) ?_
        refine lv_istore_n (lv' := [(2, .int 0), (1, .int (nI (nn - dn))), (0, .ref h)]) hx hb d_Tx_takeLines_66 rfl hl (by decide) rfl (fun ls hl => ?_)
        have loop_67 : ∀ (n9 : Nat) (k : Nat) (AA : List Nat) (gou : Nat → Int32) (odu : Nat → Int32) (wtv : Nat → Int32) (un : Nat) (H : Heap) (locs : List Loc) (ls : Array Slot), (nn - dn) - k < n9 → (k ≤ (nn - dn)) → (AA.length = k) → (wtR re gou wtv nn) → (AA ++ gL re nn ((nn - dn) - k) gou = (gL re nn (nn - dn) go)) → (un + gU re nn ((nn - dn) - k) gou = (gU re nn (nn - dn) go)) → (arrL odu (asL L AA)) → (un ≤ k) → va_P (dC, dI) classes [(h, .inr (10, [.ref odA, .int (nI k), .int (nI (szN LN (asL L AA))), .int (nI un), tx_stranded, .int (nI dn), tx_stock, tx_changes, .ref ln, tx_loaded, tx_version, tx_loadedFile, .ref trA, tx_slots, .int (nI nn), .ref reA, tx_deleters, .ref goA, .ref waA])), (ln, .inr (4, [ln_at, .ref llA, ln_change, ln_place, ln_up, ln_down, ln_ofFile, ln_total])), (llA, .inl (cI, 4000, .inl S.ll)), (trA, .inl (cI, 400, .inl rw9)), (goA, .inl (cI, 400, .inl gou)), (odA, .inl (cI, 400, .inl odu)), (waA, .inl (cI, 400, .inl wtv)), (reA, .inl (cL, 2800, .inr (.inl re)))] H → va_D A [(h, .inr (10, [.ref odA, .int (nI k), .int (nI (szN LN (asL L AA))), .int (nI un), tx_stranded, .int (nI dn), tx_stock, tx_changes, .ref ln, tx_loaded, tx_version, tx_loadedFile, .ref trA, tx_slots, .int (nI nn), .ref reA, tx_deleters, .ref goA, .ref waA])), (ln, .inr (4, [ln_at, .ref llA, ln_change, ln_place, ln_up, ln_down, ln_ofFile, ln_total])), (llA, .inl (cI, 4000, .inl S.ll)), (trA, .inl (cI, 400, .inl rw9)), (goA, .inl (cI, 400, .inl gou)), (odA, .inl (cI, 400, .inl odu)), (waA, .inl (cI, 400, .inl wtv)), (reA, .inl (cL, 2800, .inr (.inl re)))] → va_S A s.heap H locs → lv_has ls 4 [(0, .ref h), (1, .int (nI (nn - dn))), (2, .int (nI k))] → W p l e (headSpec ws_Tx_takeLines ({ frames := 2, cells := 0, slots := 0, locals := 120 })).room s m ([.ref h] : List Value).toArray below meth c H locs 0 0 Q (F0 m 67 ls []) := by
          intro n9
          induction n9 with
          | zero => intro k AA gou odu wtv un H locs ls hm; exact absurd hm (Nat.not_lt_zero _)
          | succ n9 ih_67 =>
            intro k AA gou odu wtv un H locs ls hm hk hAk hwR hg1 hg2 hod hunk hP hD hS hl
            have hszb := szN_le hLN (asL L AA)
            rw [asL_len] at hszb
            refine lv_iload_n hx hb d_Tx_takeLines_67 rfl (lv_at hl 2 rfl) ?_
            refine lv_iload_n hx hb d_Tx_takeLines_68 rfl (lv_at hl 1 rfl) ?_
            refine lv_icmp_ge (tgt := 94) hx hb d_Tx_takeLines_69 (by decide) (fun c_69 => ?_) (fun c_69 => ?_)
            · have n_69 : (nn - dn) ≤ k := (nI_leI (a := (nn - dn)) (b := k) (by omega) (by omega)).mp c_69
              rw [show (nn - dn) - k = 0 by omega, (gL_zero re nn gou).1, List.append_nil] at hg1
              rw [show (nn - dn) - k = 0 by omega, (gL_zero re nn gou).2] at hg2
              rw [hg1] at hod
              rw [show un = (gU re nn (nn - dn) go) from hg2, ← hAk, hg1] at hP hD
              rw [← hQe]
              exact W.vret hx hb hr (fun t ht hW => ⟨⟨(gou, odu, wtv), rfl, hod, by rw [ht]; exact hP, va_K.moved hW.alike hK, hD⟩, hS.F ht⟩) hS.2.2 d_Tx_takeLines_94
            · have n_69 : k < (nn - dn) := Nat.lt_of_not_le (fun z => c_69 ((nI_leI (a := (nn - dn)) (b := k) (by omega) (by omega)).mpr z))
              refine lv_aload_n hx hb d_Tx_takeLines_72 rfl (lv_at hl 0 rfl) ?_
              have hPc := hP.sub (ws' := [(h, .inr (10, [.ref odA, .int (nI k), .int (nI (szN LN (asL L AA))), .int (nI un), tx_stranded, .int (nI dn), tx_stock, tx_changes, .ref ln, tx_loaded, tx_version, tx_loadedFile, .ref trA, tx_slots, .int (nI nn), .ref reA, tx_deleters, .ref goA, .ref waA])), (goA, .inl (cI, 400, .inl gou)), (waA, .inl (cI, 400, .inl wtv))]) [0, 4, 6] rfl
              have hDc := hD.sub (ws' := [(h, .inr (10, [.ref odA, .int (nI k), .int (nI (szN LN (asL L AA))), .int (nI un), tx_stranded, .int (nI dn), tx_stock, tx_changes, .ref ln, tx_loaded, tx_version, tx_loadedFile, .ref trA, tx_slots, .int (nI nn), .ref reA, tx_deleters, .ref goA, .ref waA])), (goA, .inl (cI, 400, .inl gou)), (waA, .inl (cI, 400, .inl wtv))]) [0, 4, 6] (by decide) rfl
              have hFc := va_free (wc := [(h, .inr (10, [.ref odA, .int (nI k), .int (nI (szN LN (asL L AA))), .int (nI un), tx_stranded, .int (nI dn), tx_stock, tx_changes, .ref ln, tx_loaded, tx_version, tx_loadedFile, .ref trA, tx_slots, .int (nI nn), .ref reA, tx_deleters, .ref goA, .ref waA])), (goA, .inl (cI, 400, .inl gou)), (waA, .inl (cI, 400, .inl wtv))]) hD hS hA [0, 4, 6] rfl
              refine va_calli (va_runV (As := []) (rest := []) ⟨hx, hb, hml, hown, hts⟩ (m_Tx_leastFree l dC dI cI cB cL cZ cR h goA waA (.ref odA) (.int (nI k)) (.int (nI (szN LN (asL L AA)))) (tx_stranded) (.int (nI dn)) (tx_stock) (tx_changes) (.ref ln) (tx_loaded) (tx_version) (tx_loadedFile) (.ref trA) (tx_slots) (.ref reA) (tx_deleters) gou wtv re nn un H.size hnn hwR (by omega)) (cwV 0 hts (xg_V gw_1106 gw_1108 (xg_p 52 (q := (⟨"PatchStore$Text", "leastFree", "()I"⟩, 19)) (by decide +kernel)) gw_9 gw_1109) rfl rfl rfl (by decide +kernel) ⟨Nat.le_of_ble_eq_true rfl, Nat.le_of_ble_eq_true rfl⟩) ⟨xw_blind, va_recv hK hPc (ci := 10) (q0 := 0) rfl rfl, fun U hU hW => ⟨rfl, by rw [hU], by rw [hU]; exact hPc, va_K.moved hW.alike hK, hDc.weaken (fun _ _ _ _ => trivial)⟩⟩ rfl rfl hl.1 rfl (lv_room (Nat.le_of_ble_eq_true rfl)) d_Tx_takeLines_73 ⟨Nat.le_of_ble_eq_true rfl, Nat.le_of_ble_eq_true rfl⟩) hS (fun q _ h => hFc q h) hFc (fun r9 u8 t H1 locs ht hvm hw hB hz1 hk1 hS => ?_)
              obtain ⟨hP1, hK1, hD1⟩ := hB
              rw [ht] at hP1
              obtain ⟨hP, hD⟩ := va_join (wr := [(ln, .inr (4, [ln_at, .ref llA, ln_change, ln_place, ln_up, ln_down, ln_ofFile, ln_total])), (llA, .inl (cI, 4000, .inl S.ll)), (trA, .inl (cI, 400, .inl rw9)), (odA, .inl (cI, 400, .inl odu)), (reA, .inl (cL, 2800, .inr (.inl re)))]) (w1 := [(h, .inr (10, [.ref odA, .int (nI k), .int (nI (szN LN (asL L AA))), .int (nI u8), tx_stranded, .int (nI dn), tx_stock, tx_changes, .ref ln, tx_loaded, tx_version, tx_loadedFile, .ref trA, tx_slots, .int (nI nn), .ref reA, tx_deleters, .ref goA, .ref waA])), (goA, .inl (cI, 400, .inl gou)), (waA, .inl (cI, 400, .inl wtv))]) hP hD [0, 4, 6] [1, 2, 3, 5, 7] rfl rfl (by decide) (by decide) hk1 hFc hP1 hD1
              generalize H1 = H at hP hS ⊢
              have hP : va_P (dC, dI) classes [(ln, .inr (4, [ln_at, .ref llA, ln_change, ln_place, ln_up, ln_down, ln_ofFile, ln_total])), (llA, .inl (cI, 4000, .inl S.ll)), (trA, .inl (cI, 400, .inl rw9)), (odA, .inl (cI, 400, .inl odu)), (reA, .inl (cL, 2800, .inr (.inl re))), (h, .inr (10, [.ref odA, .int (nI k), .int (nI (szN LN (asL L AA))), .int (nI u8), tx_stranded, .int (nI dn), tx_stock, tx_changes, .ref ln, tx_loaded, tx_version, tx_loadedFile, .ref trA, tx_slots, .int (nI nn), .ref reA, tx_deleters, .ref goA, .ref waA])), (goA, .inl (cI, 400, .inl gou)), (waA, .inl (cI, 400, .inl wtv))] H := hP
              have hD : va_D A [(ln, .inr (4, [ln_at, .ref llA, ln_change, ln_place, ln_up, ln_down, ln_ofFile, ln_total])), (llA, .inl (cI, 4000, .inl S.ll)), (trA, .inl (cI, 400, .inl rw9)), (odA, .inl (cI, 400, .inl odu)), (reA, .inl (cL, 2800, .inr (.inl re))), (h, .inr (10, [.ref odA, .int (nI k), .int (nI (szN LN (asL L AA))), .int (nI u8), tx_stranded, .int (nI dn), tx_stock, tx_changes, .ref ln, tx_loaded, tx_version, tx_loadedFile, .ref trA, tx_slots, .int (nI nn), .ref reA, tx_deleters, .ref goA, .ref waA])), (goA, .inl (cI, 400, .inl gou)), (waA, .inl (cI, 400, .inl wtv))] := hD
              rcases hw with ⟨rfl, rfl⟩
              · have hP : va_P (dC, dI) classes [(ln, .inr (4, [ln_at, .ref llA, ln_change, ln_place, ln_up, ln_down, ln_ofFile, ln_total])), (llA, .inl (cI, 4000, .inl S.ll)), (trA, .inl (cI, 400, .inl rw9)), (odA, .inl (cI, 400, .inl odu)), (reA, .inl (cL, 2800, .inr (.inl re))), (h, .inr (10, [.ref odA, .int (nI k), .int (nI (szN LN (asL L AA))), .int (nI (un + (if 2 ≤ cnt (frB re gou nn) nn then 1 else 0))), tx_stranded, .int (nI dn), tx_stock, tx_changes, .ref ln, tx_loaded, tx_version, tx_loadedFile, .ref trA, tx_slots, .int (nI nn), .ref reA, tx_deleters, .ref goA, .ref waA])), (goA, .inl (cI, 400, .inl gou)), (waA, .inl (cI, 400, .inl wtv))] H := hP
                have hD : va_D A [(ln, .inr (4, [ln_at, .ref llA, ln_change, ln_place, ln_up, ln_down, ln_ofFile, ln_total])), (llA, .inl (cI, 4000, .inl S.ll)), (trA, .inl (cI, 400, .inl rw9)), (odA, .inl (cI, 400, .inl odu)), (reA, .inl (cL, 2800, .inr (.inl re))), (h, .inr (10, [.ref odA, .int (nI k), .int (nI (szN LN (asL L AA))), .int (nI (un + (if 2 ≤ cnt (frB re gou nn) nn then 1 else 0))), tx_stranded, .int (nI dn), tx_stock, tx_changes, .ref ln, tx_loaded, tx_version, tx_loadedFile, .ref trA, tx_slots, .int (nI nn), .ref reA, tx_deleters, .ref goA, .ref waA])), (goA, .inl (cI, 400, .inl gou)), (waA, .inl (cI, 400, .inl wtv))] := hD
                rcases hlf : lfO (frB re gou nn) nn with _ | a9
                · refine lv_topi (fun x9 ex9 => ?_)
                  obtain rfl : x9 = (-1) := by rw [ex9]; rfl
                  refine lv_istore_n (lv' := [(3, .int (-1)), (0, .ref h), (1, .int (nI (nn - dn))), (2, .int (nI k))]) hx hb d_Tx_takeLines_76 rfl hl (by decide) rfl (fun ls hl => ?_)
                  refine lv_iload_n hx hb d_Tx_takeLines_77 rfl (lv_at hl 0 rfl) ?_
                  refine lv_iconst (v := (-1)) hx hb d_Tx_takeLines_78 (by decide) ?_
                  refine lv_icmp_ne (tgt := 83) hx hb d_Tx_takeLines_79 (by decide) (fun c_79 => absurd c_79 (by decide)) (fun _ => ?_)
                  have hP := hP.sub (ws' := [(h, .inr (10, [.ref odA, .int (nI k), .int (nI (szN LN (asL L AA))), .int (nI (un + (if 2 ≤ cnt (frB re gou nn) nn then 1 else 0))), tx_stranded, .int (nI dn), tx_stock, tx_changes, .ref ln, tx_loaded, tx_version, tx_loadedFile, .ref trA, tx_slots, .int (nI nn), .ref reA, tx_deleters, .ref goA, .ref waA])), (ln, .inr (4, [ln_at, .ref llA, ln_change, ln_place, ln_up, ln_down, ln_ofFile, ln_total])), (llA, .inl (cI, 4000, .inl S.ll)), (trA, .inl (cI, 400, .inl rw9)), (goA, .inl (cI, 400, .inl gou)), (odA, .inl (cI, 400, .inl odu)), (waA, .inl (cI, 400, .inl wtv)), (reA, .inl (cL, 2800, .inr (.inl re)))]) [5, 0, 1, 2, 6, 3, 7, 4] rfl
                  have hD := hD.sub (ws' := [(h, .inr (10, [.ref odA, .int (nI k), .int (nI (szN LN (asL L AA))), .int (nI (un + (if 2 ≤ cnt (frB re gou nn) nn then 1 else 0))), tx_stranded, .int (nI dn), tx_stock, tx_changes, .ref ln, tx_loaded, tx_version, tx_loadedFile, .ref trA, tx_slots, .int (nI nn), .ref reA, tx_deleters, .ref goA, .ref waA])), (ln, .inr (4, [ln_at, .ref llA, ln_change, ln_place, ln_up, ln_down, ln_ofFile, ln_total])), (llA, .inl (cI, 4000, .inl S.ll)), (trA, .inl (cI, 400, .inl rw9)), (goA, .inl (cI, 400, .inl gou)), (odA, .inl (cI, 400, .inl odu)), (waA, .inl (cI, 400, .inl wtv)), (reA, .inl (cL, 2800, .inr (.inl re)))]) [5, 0, 1, 2, 6, 3, 7, 4] (by decide) rfl
                  have hgn := gL_none (k := (nn - dn) - k) hlf (by omega)
                  rw [hgn.1, List.append_nil] at hg1
                  rw [hgn.2] at hg2
                  rw [show (un + (if 2 ≤ cnt (frB re gou nn) nn then 1 else 0)) = un from by rw [lfO_cnt hlf]; rfl] at hP hD
                  rw [hg1] at hod
                  rw [show un = (gU re nn (nn - dn) go) from hg2, ← hAk, hg1] at hP hD
                  rw [← hQe]
                  exact W.vret hx hb hr (fun t ht hW => ⟨⟨(gou, odu, wtv), rfl, hod, by rw [ht]; exact hP, va_K.moved hW.alike hK, hD⟩, hS.F ht⟩) hS.2.2 d_Tx_takeLines_82
                · refine lv_topi (fun x9 ex9 => ?_)
                  obtain rfl : x9 = nI a9 := by rw [ex9]; rfl
                  obtain ⟨hlf1, hlf2, -⟩ := lfO_spec hlf
                  have hgs := gL_some (k := (nn - dn) - k) hlf (by omega)
                  have hxm := getD_mem (L := L) (i := a9) (by omega)
                  have hx4 := hL5 _ hxm
                  have hn5 := hLN (L.getD a9 0)
                  refine lv_istore_n (lv' := [(3, .int (nI a9)), (0, .ref h), (1, .int (nI (nn - dn))), (2, .int (nI k))]) hx hb d_Tx_takeLines_76 rfl hl (by decide) rfl (fun ls hl => ?_)
                  refine lv_iload_n hx hb d_Tx_takeLines_77 rfl (lv_at hl 0 rfl) ?_
                  refine lv_iconst (v := (-1)) hx hb d_Tx_takeLines_78 (by decide) ?_
                  refine lv_icmp_ne (tgt := 83) hx hb d_Tx_takeLines_79 (by decide) (fun _ => ?_) (fun c_79 => absurd c_79 (fun z => nI_nm1 (by omega) z.symm))
                  refine lv_aload_n hx hb d_Tx_takeLines_83 rfl (lv_at hl 1 rfl) ?_
                  refine lv_iload_n hx hb d_Tx_takeLines_84 rfl (lv_at hl 0 rfl) ?_
                  have hPc := hP.sub (ws' := [(h, .inr (10, [.ref odA, .int (nI k), .int (nI (szN LN (asL L AA))), .int (nI (un + (if 2 ≤ cnt (frB re gou nn) nn then 1 else 0))), tx_stranded, .int (nI dn), tx_stock, tx_changes, .ref ln, tx_loaded, tx_version, tx_loadedFile, .ref trA, tx_slots, .int (nI nn), .ref reA, tx_deleters, .ref goA, .ref waA])), (ln, .inr (4, [ln_at, .ref llA, ln_change, ln_place, ln_up, ln_down, ln_ofFile, ln_total])), (llA, .inl (cI, 4000, .inl S.ll)), (trA, .inl (cI, 400, .inl rw9)), (goA, .inl (cI, 400, .inl gou)), (odA, .inl (cI, 400, .inl odu)), (waA, .inl (cI, 400, .inl wtv)), (reA, .inl (cL, 2800, .inr (.inl re)))]) [5, 0, 1, 2, 6, 3, 7, 4] rfl
                  have hDc := hD.sub (ws' := [(h, .inr (10, [.ref odA, .int (nI k), .int (nI (szN LN (asL L AA))), .int (nI (un + (if 2 ≤ cnt (frB re gou nn) nn then 1 else 0))), tx_stranded, .int (nI dn), tx_stock, tx_changes, .ref ln, tx_loaded, tx_version, tx_loadedFile, .ref trA, tx_slots, .int (nI nn), .ref reA, tx_deleters, .ref goA, .ref waA])), (ln, .inr (4, [ln_at, .ref llA, ln_change, ln_place, ln_up, ln_down, ln_ofFile, ln_total])), (llA, .inl (cI, 4000, .inl S.ll)), (trA, .inl (cI, 400, .inl rw9)), (goA, .inl (cI, 400, .inl gou)), (odA, .inl (cI, 400, .inl odu)), (waA, .inl (cI, 400, .inl wtv)), (reA, .inl (cL, 2800, .inr (.inl re)))]) [5, 0, 1, 2, 6, 3, 7, 4] (by decide) rfl
                  have hFc := va_free (wc := [(h, .inr (10, [.ref odA, .int (nI k), .int (nI (szN LN (asL L AA))), .int (nI (un + (if 2 ≤ cnt (frB re gou nn) nn then 1 else 0))), tx_stranded, .int (nI dn), tx_stock, tx_changes, .ref ln, tx_loaded, tx_version, tx_loadedFile, .ref trA, tx_slots, .int (nI nn), .ref reA, tx_deleters, .ref goA, .ref waA])), (ln, .inr (4, [ln_at, .ref llA, ln_change, ln_place, ln_up, ln_down, ln_ofFile, ln_total])), (llA, .inl (cI, 4000, .inl S.ll)), (trA, .inl (cI, 400, .inl rw9)), (goA, .inl (cI, 400, .inl gou)), (odA, .inl (cI, 400, .inl odu)), (waA, .inl (cI, 400, .inl wtv)), (reA, .inl (cL, 2800, .inr (.inl re)))]) hD hS hA [5, 0, 1, 2, 6, 3, 7, 4] rfl
                  refine va_callv (va_runV (As := [.int (nI a9)]) (rest := []) ⟨hx, hb, hml, hown, hts⟩ (m_Tx_takeSlot l dC dI cI cB cL cZ cR h ln llA trA goA odA waA reA (.int (nI (un + (if 2 ≤ cnt (frB re gou nn) nn then 1 else 0)))) (tx_stranded) (.int (nI dn)) (tx_stock) (tx_changes) (tx_loaded) (tx_version) (tx_loadedFile) (tx_slots) (tx_deleters) (ln_at) (ln_change) (ln_place) (ln_up) (ln_down) (ln_ofFile) (ln_total) S rw9 gou odu wtv re nn a9 k (szN LN (asL L AA)) (L.getD a9 0) (LN (L.getD a9 0)) H.size hnn hlf1 (by omega) (hrw a9 (by omega)) hx4 (hll _ hxm) hn5 (by omega)) (cwV 1 hts (xg_V gw_1110 gw_1112 (xg_p 53 (q := (⟨"PatchStore$Text", "takeSlot", "(I)V"⟩, 19)) (by decide +kernel)) gw_9 gw_1113) rfl rfl rfl (by decide +kernel) ⟨Nat.le_of_ble_eq_true rfl, Nat.le_of_ble_eq_true rfl⟩) ⟨xw_blind, va_recv hK hPc (ci := 10) (q0 := 0) rfl rfl, fun U hU hW => ⟨rfl, by rw [hU], by rw [hU]; exact hPc, va_K.moved hW.alike hK, hDc.weaken (fun _ _ _ _ => trivial)⟩⟩ rfl rfl hl.1 rfl (lv_room (Nat.le_of_ble_eq_true rfl)) d_Tx_takeLines_85 ⟨Nat.le_of_ble_eq_true rfl, Nat.le_of_ble_eq_true rfl⟩) hS (fun q _ h => hFc q h) hFc (fun u9 t H1 locs ht hvm hw hB hz1 hk1 hS => ?_)
                  obtain ⟨hP1, hK1, hD1⟩ := hB
                  rw [ht] at hP1
                  obtain ⟨hP, hD⟩ := va_join (wr := []) (w1 := [(h, .inr (10, [.ref odA, .int (nI (k + 1)), .int (nI (szN LN (asL L AA) + LN (L.getD a9 0))), .int (nI (un + (if 2 ≤ cnt (frB re gou nn) nn then 1 else 0))), tx_stranded, .int (nI dn), tx_stock, tx_changes, .ref ln, tx_loaded, tx_version, tx_loadedFile, .ref trA, tx_slots, .int (nI nn), .ref reA, tx_deleters, .ref goA, .ref waA])), (ln, .inr (4, [ln_at, .ref llA, ln_change, ln_place, ln_up, ln_down, ln_ofFile, ln_total])), (llA, .inl (cI, 4000, .inl S.ll)), (trA, .inl (cI, 400, .inl rw9)), (goA, .inl (cI, 400, .inl (upd gou a9 1))), (odA, .inl (cI, 400, .inl (upd odu k (nI (L.getD a9 0))))), (waA, .inl (cI, 400, .inl (wtU re gou wtv a9 nn))), (reA, .inl (cL, 2800, .inr (.inl re)))]) hP hD [5, 0, 1, 2, 6, 3, 7, 4] [] rfl rfl (by decide) (by decide) hk1 hFc hP1 hD1
                  generalize H1 = H at hP hS ⊢
                  have hP : va_P (dC, dI) classes [(h, .inr (10, [.ref odA, .int (nI (k + 1)), .int (nI (szN LN (asL L AA) + LN (L.getD a9 0))), .int (nI (un + (if 2 ≤ cnt (frB re gou nn) nn then 1 else 0))), tx_stranded, .int (nI dn), tx_stock, tx_changes, .ref ln, tx_loaded, tx_version, tx_loadedFile, .ref trA, tx_slots, .int (nI nn), .ref reA, tx_deleters, .ref goA, .ref waA])), (ln, .inr (4, [ln_at, .ref llA, ln_change, ln_place, ln_up, ln_down, ln_ofFile, ln_total])), (llA, .inl (cI, 4000, .inl S.ll)), (trA, .inl (cI, 400, .inl rw9)), (goA, .inl (cI, 400, .inl (upd gou a9 1))), (odA, .inl (cI, 400, .inl (upd odu k (nI (L.getD a9 0))))), (waA, .inl (cI, 400, .inl (wtU re gou wtv a9 nn))), (reA, .inl (cL, 2800, .inr (.inl re)))] H := hP
                  have hD : va_D A [(h, .inr (10, [.ref odA, .int (nI (k + 1)), .int (nI (szN LN (asL L AA) + LN (L.getD a9 0))), .int (nI (un + (if 2 ≤ cnt (frB re gou nn) nn then 1 else 0))), tx_stranded, .int (nI dn), tx_stock, tx_changes, .ref ln, tx_loaded, tx_version, tx_loadedFile, .ref trA, tx_slots, .int (nI nn), .ref reA, tx_deleters, .ref goA, .ref waA])), (ln, .inr (4, [ln_at, .ref llA, ln_change, ln_place, ln_up, ln_down, ln_ofFile, ln_total])), (llA, .inl (cI, 4000, .inl S.ll)), (trA, .inl (cI, 400, .inl rw9)), (goA, .inl (cI, 400, .inl (upd gou a9 1))), (odA, .inl (cI, 400, .inl (upd odu k (nI (L.getD a9 0))))), (waA, .inl (cI, 400, .inl (wtU re gou wtv a9 nn))), (reA, .inl (cL, 2800, .inr (.inl re)))] := hD
                  rw [show nI (szN LN (asL L AA) + LN (L.getD a9 0)) = nI (szN LN (asL L (AA ++ [a9]))) from congrArg nI (by rw [asL_app, szN_app])] at hP hD
                  refine lv_iinc (v := nI (k + 1)) (lv' := [(2, .int (nI (k + 1))), (3, .int (nI a9)), (0, .ref h), (1, .int (nI (nn - dn)))]) hx hb d_Tx_takeLines_88 hl (k := 3) rfl (by exact nI_add _ _) (by decide) rfl (fun ls hl => ?_)
                  refine lv_goto (tgt := 67) hx hb d_Tx_takeLines_91 (by decide) ?_
                  exact ih_67 (k + 1) (AA ++ [a9]) (upd gou a9 1) (upd odu k (nI (L.getD a9 0))) (wtU re gou wtv a9 nn) (un + (if 2 ≤ cnt (frB re gou nn) nn then 1 else 0)) _ _ _ (by omega) (by omega) (by rw [List.length_append, hAk]; rfl) (hwR.take hnn hlf1 (frB_go hlf2)) (by rw [← hg1, hgs.1, List.append_assoc, show (nn - dn) - k - 1 = (nn - dn) - (k + 1) by omega]; rfl) (by rw [← hg2, hgs.2, show (nn - dn) - k - 1 = (nn - dn) - (k + 1) by omega]; omega) (by rw [asL_app, ← hAk, ← asL_len L AA]; exact hod.push _) (by split <;> omega) hP hD hS (lv_sub hl [2, 3, 0] rfl)
        exact loop_67 _ 0 ([]) go od wtu 0 _ _ _ (Nat.lt_succ_self _) (Nat.zero_le _) (rfl) (fun a z z9 => hw1 a (by omega) z9) (rfl) (Nat.zero_add _) (arrL.nil _) (Nat.le_refl _) hP hD hS (lv_sub hl [2, 1, 0] rfl)
      · have n_7 : i < nn := Nat.lt_of_not_le (fun z => c_7 ((nI_leI (a := nn) (b := i) (by omega) (by omega)).mpr z))
        refine lv_aload_n hx hb d_Tx_takeLines_10 rfl (lv_at hl 0 rfl) ?_
        refine va_get (D := (dC, dI)) (ci := 10) (v := .ref waA) (C := R_Tx) (T := F_Tx) (N := 19) hx hb hts i_Tx hown hK hP 0 rfl rfl 18 (by decide) (hts _ gw_400) (fun _ h9 => h9) rfl d_Tx_takeLines_11 ?_
        refine lv_iload_n hx hb d_Tx_takeLines_14 rfl (lv_at hl 1 rfl) ?_
        refine lv_aload_n hx hb d_Tx_takeLines_15 rfl (lv_at hl 0 rfl) ?_
        refine va_get (D := (dC, dI)) (ci := 10) (v := .ref goA) (C := R_Tx) (T := F_Tx) (N := 19) hx hb hts i_Tx hown hK hP 0 rfl rfl 17 (by decide) (hts _ gw_399) (fun _ h9 => h9) rfl d_Tx_takeLines_16 ?_
        refine lv_iload_n hx hb d_Tx_takeLines_19 rfl (lv_at hl 1 rfl) ?_
        refine va_iald hx hb hK hP 4 0 rfl rfl (vp_in_nI (by omega) (by omega)) d_Tx_takeLines_20 ?_
        rw [show (nI i).toNatClampNeg = i from nI_clamp (by omega)]
        refine lv_if_eq (tgt := 28) hx hb d_Tx_takeLines_21 (by decide) (fun c_21 => ?_) (fun c_21 => ?_)
        · refine lv_aload_n hx hb d_Tx_takeLines_28 rfl (lv_at hl 0 rfl) ?_
          refine lv_iload_n hx hb d_Tx_takeLines_29 rfl (lv_at hl 1 rfl) ?_
          have hPc := hP.sub (ws' := [(h, .inr (10, [.ref odA, tx_length, tx_size, tx_unsure, tx_stranded, .int (nI dn), tx_stock, tx_changes, .ref ln, tx_loaded, tx_version, tx_loadedFile, .ref trA, tx_slots, .int (nI nn), .ref reA, tx_deleters, .ref goA, .ref waA])), (goA, .inl (cI, 400, .inl go)), (reA, .inl (cL, 2800, .inr (.inl re)))]) [0, 4, 7] rfl
          have hDc := hD.sub (ws' := [(h, .inr (10, [.ref odA, tx_length, tx_size, tx_unsure, tx_stranded, .int (nI dn), tx_stock, tx_changes, .ref ln, tx_loaded, tx_version, tx_loadedFile, .ref trA, tx_slots, .int (nI nn), .ref reA, tx_deleters, .ref goA, .ref waA])), (goA, .inl (cI, 400, .inl go)), (reA, .inl (cL, 2800, .inr (.inl re)))]) [0, 4, 7] (by decide) rfl
          have hFc := va_free (wc := [(h, .inr (10, [.ref odA, tx_length, tx_size, tx_unsure, tx_stranded, .int (nI dn), tx_stock, tx_changes, .ref ln, tx_loaded, tx_version, tx_loadedFile, .ref trA, tx_slots, .int (nI nn), .ref reA, tx_deleters, .ref goA, .ref waA])), (goA, .inl (cI, 400, .inl go)), (reA, .inl (cL, 2800, .inr (.inl re)))]) hD hS hA [0, 4, 7] rfl
          refine va_calli (va_runV (As := [.int (nI i)]) (rest := [.int (nI i), .ref waA]) ⟨hx, hb, hml, hown, hts⟩ (m_Tx_countWaits l dC dI cI cB cL cZ cR h goA reA (.ref odA) (tx_length) (tx_size) (tx_unsure) (tx_stranded) (.int (nI dn)) (tx_stock) (tx_changes) (.ref ln) (tx_loaded) (tx_version) (tx_loadedFile) (.ref trA) (tx_slots) (tx_deleters) (.ref waA) go re nn i H.size hnn n_7) (cwV 1 hts (xg_V gw_1098 gw_1100 (xg_p 50 (q := (⟨"PatchStore$Text", "countWaits", "(I)I"⟩, 19)) (by decide +kernel)) gw_9 gw_1101) rfl rfl rfl (by decide +kernel) ⟨Nat.le_of_ble_eq_true rfl, Nat.le_of_ble_eq_true rfl⟩) ⟨xw_blind, va_recv hK hPc (ci := 10) (q0 := 0) rfl rfl, fun U hU hW => ⟨rfl, by rw [hU], by rw [hU]; exact hPc, va_K.moved hW.alike hK, hDc.weaken (fun _ _ _ _ => trivial)⟩⟩ rfl rfl hl.1 rfl (lv_room (Nat.le_of_ble_eq_true rfl)) d_Tx_takeLines_30 ⟨Nat.le_of_ble_eq_true rfl, Nat.le_of_ble_eq_true rfl⟩) hS (fun q _ h => hFc q h) hFc (fun r9 u t H1 locs ht hvm hw hB hz1 hk1 hS => ?_)
          obtain ⟨hP1, hK1, hD1⟩ := hB
          rw [ht] at hP1
          obtain ⟨hP, hD⟩ := va_join (wr := [(ln, .inr (4, [ln_at, .ref llA, ln_change, ln_place, ln_up, ln_down, ln_ofFile, ln_total])), (llA, .inl (cI, 4000, .inl S.ll)), (trA, .inl (cI, 400, .inl rw9)), (odA, .inl (cI, 400, .inl od)), (waA, .inl (cI, 400, .inl wtu))]) (w1 := [(h, .inr (10, [.ref odA, tx_length, tx_size, tx_unsure, tx_stranded, .int (nI dn), tx_stock, tx_changes, .ref ln, tx_loaded, tx_version, tx_loadedFile, .ref trA, tx_slots, .int (nI nn), .ref reA, tx_deleters, .ref goA, .ref waA])), (goA, .inl (cI, 400, .inl go)), (reA, .inl (cL, 2800, .inr (.inl re)))]) hP hD [0, 4, 7] [1, 2, 3, 5, 6] rfl rfl (by decide) (by decide) hk1 hFc hP1 hD1
          generalize H1 = H at hP hS ⊢
          have hP : va_P (dC, dI) classes [(ln, .inr (4, [ln_at, .ref llA, ln_change, ln_place, ln_up, ln_down, ln_ofFile, ln_total])), (llA, .inl (cI, 4000, .inl S.ll)), (trA, .inl (cI, 400, .inl rw9)), (odA, .inl (cI, 400, .inl od)), (waA, .inl (cI, 400, .inl wtu)), (h, .inr (10, [.ref odA, tx_length, tx_size, tx_unsure, tx_stranded, .int (nI dn), tx_stock, tx_changes, .ref ln, tx_loaded, tx_version, tx_loadedFile, .ref trA, tx_slots, .int (nI nn), .ref reA, tx_deleters, .ref goA, .ref waA])), (goA, .inl (cI, 400, .inl go)), (reA, .inl (cL, 2800, .inr (.inl re)))] H := hP
          have hD : va_D A [(ln, .inr (4, [ln_at, .ref llA, ln_change, ln_place, ln_up, ln_down, ln_ofFile, ln_total])), (llA, .inl (cI, 4000, .inl S.ll)), (trA, .inl (cI, 400, .inl rw9)), (odA, .inl (cI, 400, .inl od)), (waA, .inl (cI, 400, .inl wtu)), (h, .inr (10, [.ref odA, tx_length, tx_size, tx_unsure, tx_stranded, .int (nI dn), tx_stock, tx_changes, .ref ln, tx_loaded, tx_version, tx_loadedFile, .ref trA, tx_slots, .int (nI nn), .ref reA, tx_deleters, .ref goA, .ref waA])), (goA, .inl (cI, 400, .inl go)), (reA, .inl (cL, 2800, .inr (.inl re)))] := hD
          subst hw
          refine va_iast hx hb hK hP hD hS 4 0 rfl rfl (vp_in_nI (by omega) (by omega)) d_Tx_takeLines_33 (fun H locs hP hD hS => ?_)
          rw [show (nI i).toNatClampNeg = i from nI_clamp (by omega)] at hP hD
          have hP : va_P (dC, dI) classes [(ln, .inr (4, [ln_at, .ref llA, ln_change, ln_place, ln_up, ln_down, ln_ofFile, ln_total])), (llA, .inl (cI, 4000, .inl S.ll)), (trA, .inl (cI, 400, .inl rw9)), (odA, .inl (cI, 400, .inl od)), (waA, .inl (cI, 400, .inl (upd wtu i (nI (wtN re go nn i))))), (h, .inr (10, [.ref odA, tx_length, tx_size, tx_unsure, tx_stranded, .int (nI dn), tx_stock, tx_changes, .ref ln, tx_loaded, tx_version, tx_loadedFile, .ref trA, tx_slots, .int (nI nn), .ref reA, tx_deleters, .ref goA, .ref waA])), (goA, .inl (cI, 400, .inl go)), (reA, .inl (cL, 2800, .inr (.inl re)))] H := hP
          have hD : va_D A [(ln, .inr (4, [ln_at, .ref llA, ln_change, ln_place, ln_up, ln_down, ln_ofFile, ln_total])), (llA, .inl (cI, 4000, .inl S.ll)), (trA, .inl (cI, 400, .inl rw9)), (odA, .inl (cI, 400, .inl od)), (waA, .inl (cI, 400, .inl (upd wtu i (nI (wtN re go nn i))))), (h, .inr (10, [.ref odA, tx_length, tx_size, tx_unsure, tx_stranded, .int (nI dn), tx_stock, tx_changes, .ref ln, tx_loaded, tx_version, tx_loadedFile, .ref trA, tx_slots, .int (nI nn), .ref reA, tx_deleters, .ref goA, .ref waA])), (goA, .inl (cI, 400, .inl go)), (reA, .inl (cL, 2800, .inr (.inl re)))] := hD
          refine lv_iinc (v := nI (i + 1)) (lv' := [(1, .int (nI (i + 1))), (0, .ref h)]) hx hb d_Tx_takeLines_34 hl (k := 1) rfl (by exact nI_add _ _) (by decide) rfl (fun ls hl => ?_)
          refine lv_goto (tgt := 2) hx hb d_Tx_takeLines_37 (by decide) ?_
          exact ih_2 (i + 1) (upd wtu i (nI (wtN re go nn i))) _ _ _ (by omega) (by omega) (fun a z z9 => if e9 : a = i then by rw [e9, upd_eq] else (upd_ne _ e9).trans (hw1 a (by omega) z9)) (hP.sub [5, 0, 1, 2, 6, 3, 4, 7] rfl) (hD.sub [5, 0, 1, 2, 6, 3, 4, 7] (by decide) rfl) hS (lv_sub hl [1, 0] rfl)
        · refine lv_iconst (v := 0) hx hb d_Tx_takeLines_24 (by decide) ?_
          refine lv_goto (tgt := 33) hx hb d_Tx_takeLines_25 (by decide) ?_
          refine va_iast hx hb hK hP hD hS 6 0 rfl rfl (vp_in_nI (by omega) (by omega)) d_Tx_takeLines_33 (fun H locs hP hD hS => ?_)
          rw [show (nI i).toNatClampNeg = i from nI_clamp (by omega)] at hP hD
          have hP : va_P (dC, dI) classes [(h, .inr (10, [.ref odA, tx_length, tx_size, tx_unsure, tx_stranded, .int (nI dn), tx_stock, tx_changes, .ref ln, tx_loaded, tx_version, tx_loadedFile, .ref trA, tx_slots, .int (nI nn), .ref reA, tx_deleters, .ref goA, .ref waA])), (ln, .inr (4, [ln_at, .ref llA, ln_change, ln_place, ln_up, ln_down, ln_ofFile, ln_total])), (llA, .inl (cI, 4000, .inl S.ll)), (trA, .inl (cI, 400, .inl rw9)), (goA, .inl (cI, 400, .inl go)), (odA, .inl (cI, 400, .inl od)), (waA, .inl (cI, 400, .inl (upd wtu i 0))), (reA, .inl (cL, 2800, .inr (.inl re)))] H := hP
          have hD : va_D A [(h, .inr (10, [.ref odA, tx_length, tx_size, tx_unsure, tx_stranded, .int (nI dn), tx_stock, tx_changes, .ref ln, tx_loaded, tx_version, tx_loadedFile, .ref trA, tx_slots, .int (nI nn), .ref reA, tx_deleters, .ref goA, .ref waA])), (ln, .inr (4, [ln_at, .ref llA, ln_change, ln_place, ln_up, ln_down, ln_ofFile, ln_total])), (llA, .inl (cI, 4000, .inl S.ll)), (trA, .inl (cI, 400, .inl rw9)), (goA, .inl (cI, 400, .inl go)), (odA, .inl (cI, 400, .inl od)), (waA, .inl (cI, 400, .inl (upd wtu i 0))), (reA, .inl (cL, 2800, .inr (.inl re)))] := hD
          refine lv_iinc (v := nI (i + 1)) (lv' := [(1, .int (nI (i + 1))), (0, .ref h)]) hx hb d_Tx_takeLines_34 hl (k := 1) rfl (by exact nI_add _ _) (by decide) rfl (fun ls hl => ?_)
          refine lv_goto (tgt := 2) hx hb d_Tx_takeLines_37 (by decide) ?_
          exact ih_2 (i + 1) (upd wtu i 0) _ _ _ (by omega) (by omega) (fun a z z9 => if e9 : a = i then absurd (e9 ▸ z9) c_21 else (upd_ne _ e9).trans (hw1 a (by omega) z9)) hP hD hS (lv_sub hl [1, 0] rfl)
  exact loop_2 _ 0 wt _ _ _ (Nat.lt_succ_self _) (Nat.zero_le _) (fun a z => absurd z (Nat.not_lt_zero _)) hP hD hS (lv_sub hl [1, 0] rfl)
end
section
/-! 99d.text.lean.txt -/
theorem gw_392 : (Jvm.Cond.fieldLink "PatchStore$Text" (54 : Nat) "PatchStore$Text" "version" "I") ∈ xg_1 := xg_s2 152 rfl rfl
theorem gw_534 : (Jvm.Cond.fieldLink "PatchStore$Text" (58 : Nat) "PatchStore$Repository" "version" "I") ∈ xg_1 := xg_s3 54 rfl rfl
theorem gw_1048 : (Jvm.Cond.methodLink "PatchStore$Text" (64 : Nat) ({ cls := "PatchStore$Text", name := "gatherLines", desc := "()V" } : Jvm.MethodName)) ∈ xg_1 := xg_s5 88 rfl rfl
theorem gw_1050 : (Jvm.Cond.instanceMethod ({ cls := "PatchStore$Text", name := "gatherLines", desc := "()V" } : Jvm.MethodName)) ∈ xg_1 := xg_s5 90 rfl rfl
theorem gw_1051 : (Jvm.Cond.code ({ cls := "PatchStore$Text", name := "gatherLines", desc := "()V" } : Jvm.MethodName) prog_11_method_4_code (3 : Nat) (Option.none : Option Jvm.ClassFile.FieldType)) ∈ xg_1 := xg_s5 91 rfl rfl
theorem gw_1060 : (Jvm.Cond.methodLink "PatchStore$Text" (67 : Nat) ({ cls := "PatchStore$Text", name := "clearRows", desc := "()V" } : Jvm.MethodName)) ∈ xg_1 := xg_s5 100 rfl rfl
theorem gw_1062 : (Jvm.Cond.instanceMethod ({ cls := "PatchStore$Text", name := "clearRows", desc := "()V" } : Jvm.MethodName)) ∈ xg_1 := xg_s5 102 rfl rfl
theorem gw_1063 : (Jvm.Cond.code ({ cls := "PatchStore$Text", name := "clearRows", desc := "()V" } : Jvm.MethodName) prog_11_method_6_code (2 : Nat) (Option.none : Option Jvm.ClassFile.FieldType)) ∈ xg_1 := xg_s5 103 rfl rfl
theorem gw_1064 : (Jvm.Cond.methodLink "PatchStore$Text" (70 : Nat) ({ cls := "PatchStore$Text", name := "layInsertEdges", desc := "()V" } : Jvm.MethodName)) ∈ xg_1 := xg_s5 104 rfl rfl
theorem gw_1066 : (Jvm.Cond.instanceMethod ({ cls := "PatchStore$Text", name := "layInsertEdges", desc := "()V" } : Jvm.MethodName)) ∈ xg_1 := xg_s5 106 rfl rfl
theorem gw_1067 : (Jvm.Cond.code ({ cls := "PatchStore$Text", name := "layInsertEdges", desc := "()V" } : Jvm.MethodName) prog_11_method_7_code (3 : Nat) (Option.none : Option Jvm.ClassFile.FieldType)) ∈ xg_1 := xg_s5 107 rfl rfl
theorem gw_1076 : (Jvm.Cond.methodLink "PatchStore$Text" (80 : Nat) ({ cls := "PatchStore$Text", name := "layOrdersAndDeletes", desc := "(I)V" } : Jvm.MethodName)) ∈ xg_1 := xg_s5 116 rfl rfl
theorem gw_1078 : (Jvm.Cond.instanceMethod ({ cls := "PatchStore$Text", name := "layOrdersAndDeletes", desc := "(I)V" } : Jvm.MethodName)) ∈ xg_1 := xg_s5 118 rfl rfl
theorem gw_1079 : (Jvm.Cond.code ({ cls := "PatchStore$Text", name := "layOrdersAndDeletes", desc := "(I)V" } : Jvm.MethodName) prog_11_method_10_code (6 : Nat) (Option.none : Option Jvm.ClassFile.FieldType)) ∈ xg_1 := xg_s5 119 rfl rfl
theorem gw_1081 : (Jvm.Cond.methodLink "PatchStore$Text" (84 : Nat) ({ cls := "PatchStore$Text", name := "closeReach", desc := "()V" } : Jvm.MethodName)) ∈ xg_1 := xg_s5 121 rfl rfl
theorem gw_1083 : (Jvm.Cond.instanceMethod ({ cls := "PatchStore$Text", name := "closeReach", desc := "()V" } : Jvm.MethodName)) ∈ xg_1 := xg_s5 123 rfl rfl
theorem gw_1084 : (Jvm.Cond.code ({ cls := "PatchStore$Text", name := "closeReach", desc := "()V" } : Jvm.MethodName) prog_11_method_11_code (9 : Nat) (Option.none : Option Jvm.ClassFile.FieldType)) ∈ xg_1 := xg_s5 124 rfl rfl
theorem gw_1085 : (Jvm.Cond.methodLink "PatchStore$Text" (87 : Nat) ({ cls := "PatchStore$Text", name := "countDeadAndStranded", desc := "()V" } : Jvm.MethodName)) ∈ xg_1 := xg_s5 125 rfl rfl
theorem gw_1087 : (Jvm.Cond.instanceMethod ({ cls := "PatchStore$Text", name := "countDeadAndStranded", desc := "()V" } : Jvm.MethodName)) ∈ xg_1 := xg_s5 127 rfl rfl
theorem gw_1088 : (Jvm.Cond.code ({ cls := "PatchStore$Text", name := "countDeadAndStranded", desc := "()V" } : Jvm.MethodName) prog_11_method_13_code (3 : Nat) (Option.none : Option Jvm.ClassFile.FieldType)) ∈ xg_1 := xg_s5 128 rfl rfl
theorem gw_1094 : (Jvm.Cond.methodLink "PatchStore$Text" (90 : Nat) ({ cls := "PatchStore$Text", name := "takeLines", desc := "()V" } : Jvm.MethodName)) ∈ xg_1 := xg_s5 134 rfl rfl
theorem gw_1096 : (Jvm.Cond.instanceMethod ({ cls := "PatchStore$Text", name := "takeLines", desc := "()V" } : Jvm.MethodName)) ∈ xg_1 := xg_s5 136 rfl rfl
theorem gw_1097 : (Jvm.Cond.code ({ cls := "PatchStore$Text", name := "takeLines", desc := "()V" } : Jvm.MethodName) prog_11_method_15_code (4 : Nat) (Option.none : Option Jvm.ClassFile.FieldType)) ∈ xg_1 := xg_s5 137 rfl rfl
def y_Tx_load : MethodName := ⟨"PatchStore$Text", "load", "(LPatchStore$Repository;I)V"⟩
abbrev c_Tx_load : Cond := (Jvm.Cond.code ({ cls := "PatchStore$Text", name := "load", desc := "(LPatchStore$Repository;I)V" } : Jvm.MethodName) prog_11_method_2_code (4 : Nat) (Option.none : Option Jvm.ClassFile.FieldType))
abbrev ws_Tx_load : List Cond := c_Tx_load :: xg_1
theorem d_Tx_load_0 : decode prog_11_method_2_code 0 = .ok (.aload_n 0, 1) := by decide +kernel
theorem d_Tx_load_1 : decode prog_11_method_2_code 1 = .ok (.getfield 50, 3) := by decide +kernel
theorem d_Tx_load_4 : decode prog_11_method_2_code 4 = .ok (.aload_n 1, 1) := by decide +kernel
theorem d_Tx_load_5 : decode prog_11_method_2_code 5 = .ok (.if_acmp .ne 23, 3) := by decide +kernel
theorem d_Tx_load_8 : decode prog_11_method_2_code 8 = .ok (.aload_n 0, 1) := by decide +kernel
theorem d_Tx_load_9 : decode prog_11_method_2_code 9 = .ok (.getfield 54, 3) := by decide +kernel
theorem d_Tx_load_12 : decode prog_11_method_2_code 12 = .ok (.aload_n 1, 1) := by decide +kernel
theorem d_Tx_load_13 : decode prog_11_method_2_code 13 = .ok (.getfield 58, 3) := by decide +kernel
theorem d_Tx_load_16 : decode prog_11_method_2_code 16 = .ok (.if_icmp .ne 12, 3) := by decide +kernel
theorem d_Tx_load_19 : decode prog_11_method_2_code 19 = .ok (.aload_n 0, 1) := by decide +kernel
theorem d_Tx_load_20 : decode prog_11_method_2_code 20 = .ok (.getfield 61, 3) := by decide +kernel
theorem d_Tx_load_23 : decode prog_11_method_2_code 23 = .ok (.iload_n 2, 1) := by decide +kernel
theorem d_Tx_load_24 : decode prog_11_method_2_code 24 = .ok (.if_icmp .ne 4, 3) := by decide +kernel
theorem d_Tx_load_27 : decode prog_11_method_2_code 27 = .ok (.return_, 1) := by decide +kernel
theorem d_Tx_load_28 : decode prog_11_method_2_code 28 = .ok (.aload_n 0, 1) := by decide +kernel
theorem d_Tx_load_29 : decode prog_11_method_2_code 29 = .ok (.aload_n 1, 1) := by decide +kernel
theorem d_Tx_load_30 : decode prog_11_method_2_code 30 = .ok (.putfield 50, 3) := by decide +kernel
theorem d_Tx_load_33 : decode prog_11_method_2_code 33 = .ok (.aload_n 0, 1) := by decide +kernel
theorem d_Tx_load_34 : decode prog_11_method_2_code 34 = .ok (.aload_n 1, 1) := by decide +kernel
theorem d_Tx_load_35 : decode prog_11_method_2_code 35 = .ok (.getfield 58, 3) := by decide +kernel
theorem d_Tx_load_38 : decode prog_11_method_2_code 38 = .ok (.putfield 54, 3) := by decide +kernel
theorem d_Tx_load_41 : decode prog_11_method_2_code 41 = .ok (.aload_n 0, 1) := by decide +kernel
theorem d_Tx_load_42 : decode prog_11_method_2_code 42 = .ok (.iload_n 2, 1) := by decide +kernel
theorem d_Tx_load_43 : decode prog_11_method_2_code 43 = .ok (.putfield 61, 3) := by decide +kernel
theorem d_Tx_load_46 : decode prog_11_method_2_code 46 = .ok (.aload_n 0, 1) := by decide +kernel
theorem d_Tx_load_47 : decode prog_11_method_2_code 47 = .ok (.invokevirtual 64, 3) := by decide +kernel
theorem d_Tx_load_50 : decode prog_11_method_2_code 50 = .ok (.aload_n 0, 1) := by decide +kernel
theorem d_Tx_load_51 : decode prog_11_method_2_code 51 = .ok (.invokevirtual 67, 3) := by decide +kernel
theorem d_Tx_load_54 : decode prog_11_method_2_code 54 = .ok (.aload_n 0, 1) := by decide +kernel
theorem d_Tx_load_55 : decode prog_11_method_2_code 55 = .ok (.invokevirtual 70, 3) := by decide +kernel
theorem d_Tx_load_58 : decode prog_11_method_2_code 58 = .ok (.iconst 0, 1) := by decide +kernel
theorem d_Tx_load_59 : decode prog_11_method_2_code 59 = .ok (.istore_n 3, 1) := by decide +kernel
theorem d_Tx_load_60 : decode prog_11_method_2_code 60 = .ok (.iload_n 3, 1) := by decide +kernel
theorem d_Tx_load_61 : decode prog_11_method_2_code 61 = .ok (.aload_n 0, 1) := by decide +kernel
theorem d_Tx_load_62 : decode prog_11_method_2_code 62 = .ok (.getfield 34, 3) := by decide +kernel
theorem d_Tx_load_65 : decode prog_11_method_2_code 65 = .ok (.getfield 73, 3) := by decide +kernel
theorem d_Tx_load_68 : decode prog_11_method_2_code 68 = .ok (.if_icmp .ge 22, 3) := by decide +kernel
theorem d_Tx_load_71 : decode prog_11_method_2_code 71 = .ok (.aload_n 1, 1) := by decide +kernel
theorem d_Tx_load_72 : decode prog_11_method_2_code 72 = .ok (.iload_n 3, 1) := by decide +kernel
theorem d_Tx_load_73 : decode prog_11_method_2_code 73 = .ok (.invokevirtual 76, 3) := by decide +kernel
theorem d_Tx_load_76 : decode prog_11_method_2_code 76 = .ok (.ifCond .eq 8, 3) := by decide +kernel
theorem d_Tx_load_79 : decode prog_11_method_2_code 79 = .ok (.aload_n 0, 1) := by decide +kernel
theorem d_Tx_load_80 : decode prog_11_method_2_code 80 = .ok (.iload_n 3, 1) := by decide +kernel
theorem d_Tx_load_81 : decode prog_11_method_2_code 81 = .ok (.invokevirtual 80, 3) := by decide +kernel
theorem d_Tx_load_84 : decode prog_11_method_2_code 84 = .ok (.iinc 3 1, 3) := by decide +kernel
theorem d_Tx_load_87 : decode prog_11_method_2_code 87 = .ok (.goto (-27), 3) := by decide +kernel
theorem d_Tx_load_90 : decode prog_11_method_2_code 90 = .ok (.aload_n 0, 1) := by decide +kernel
theorem d_Tx_load_91 : decode prog_11_method_2_code 91 = .ok (.invokevirtual 84, 3) := by decide +kernel
theorem d_Tx_load_94 : decode prog_11_method_2_code 94 = .ok (.aload_n 0, 1) := by decide +kernel
theorem d_Tx_load_95 : decode prog_11_method_2_code 95 = .ok (.invokevirtual 87, 3) := by decide +kernel
theorem d_Tx_load_98 : decode prog_11_method_2_code 98 = .ok (.aload_n 0, 1) := by decide +kernel
theorem d_Tx_load_99 : decode prog_11_method_2_code 99 = .ok (.invokevirtual 90, 3) := by decide +kernel
theorem d_Tx_load_102 : decode prog_11_method_2_code 102 = .ok (.return_, 1) := by decide +kernel
/-- the orders of the first n patches, those of the set -/
def oS (S : Stk) (mw : Nat → Int64) (y n l m : Nat) : Prop := ∃ p, p < n ∧ bt mw p = true ∧ oN S y p (S.nT p) l m
/-- the deletes of the first n patches, those of the set -/
def dS (S : Stk) (mw : Nat → Int64) (y n l q : Nat) : Prop := q < n ∧ bt mw q = true ∧ dN S y q (S.nT q) l
theorem oS_no {S : Stk} {mw : Nat → Int64} {y n : Nat} {Q : Nat → Nat → Prop} (h : ¬ bt mw n = true) (l m : Nat) : (Q l m ∨ oS S mw y n l m) ↔ (Q l m ∨ oS S mw y (n + 1) l m) := by
  constructor
  · rintro (z | ⟨p, h1, h2⟩)
    · exact Or.inl z
    · exact Or.inr ⟨p, by omega, h2⟩
  · rintro (z | ⟨p, h1, h2, h3⟩)
    · exact Or.inl z
    · by_cases e : p = n
      · subst e; exact absurd h2 h
      · exact Or.inr ⟨p, by omega, h2, h3⟩
theorem oS_yes {S : Stk} {mw : Nat → Int64} {y n : Nat} {Q : Nat → Nat → Prop} (h : bt mw n = true) (l m : Nat) : ((Q l m ∨ oS S mw y n l m) ∨ oN S y n (S.nT n) l m) ↔ (Q l m ∨ oS S mw y (n + 1) l m) := by
  constructor
  · rintro ((z | ⟨p, h1, h2⟩) | z)
    · exact Or.inl z
    · exact Or.inr ⟨p, by omega, h2⟩
    · exact Or.inr ⟨n, by omega, h, z⟩
  · rintro (z | ⟨p, h1, h2, h3⟩)
    · exact Or.inl (Or.inl z)
    · by_cases e : p = n
      · subst e; exact Or.inr h3
      · exact Or.inl (Or.inr ⟨p, by omega, h2, h3⟩)
theorem dS_no {S : Stk} {mw : Nat → Int64} {y n : Nat} (h : ¬ bt mw n = true) (l q : Nat) : dS S mw y n l q ↔ dS S mw y (n + 1) l q := by
  constructor
  · rintro ⟨h1, h2⟩
    exact ⟨by omega, h2⟩
  · rintro ⟨h1, h2, h3⟩
    by_cases e : q = n
    · subst e; exact absurd h2 h
    · exact ⟨by omega, h2, h3⟩
theorem dS_yes {S : Stk} {mw : Nat → Int64} {y n : Nat} (h : bt mw n = true) (l q : Nat) : (dS S mw y n l q ∨ (q = n ∧ dN S y n (S.nT n) l)) ↔ dS S mw y (n + 1) l q := by
  constructor
  · rintro (⟨h1, h2⟩ | ⟨rfl, z⟩)
    · exact ⟨by omega, h2⟩
    · exact ⟨by omega, h, z⟩
  · rintro ⟨h1, h2, h3⟩
    by_cases e : q = n
    · subst e; exact Or.inr ⟨rfl, h3⟩
    · exact Or.inl ⟨by omega, h2, h3⟩
theorem gS_no {S : Stk} {mw : Nat → Int64} {y n : Nat} (h : ¬ bt mw n = true) (l : Nat) : (∃ q, dS S mw y n l q) ↔ (∃ q, dS S mw y (n + 1) l q) := ⟨fun ⟨q, z⟩ => ⟨q, (dS_no h l q).mp z⟩, fun ⟨q, z⟩ => ⟨q, (dS_no h l q).mpr z⟩⟩
theorem gS_yes {S : Stk} {mw : Nat → Int64} {y n : Nat} (h : bt mw n = true) (l : Nat) : ((∃ q, dS S mw y n l q) ∨ dN S y n (S.nT n) l) ↔ (∃ q, dS S mw y (n + 1) l q) := by
  constructor
  · rintro (⟨q, z⟩ | z)
    · exact ⟨q, (dS_yes h l q).mp (Or.inl z)⟩
    · exact ⟨n, (dS_yes h l n).mp (Or.inr ⟨rfl, z⟩)⟩
  · rintro ⟨q, z⟩
    rcases (dS_yes h l q).mpr z with z | ⟨_, z⟩
    · exact Or.inl ⟨q, z⟩
    · exact Or.inr z
/-- the edges of the graph, on slots -/
def edG (S : Stk) (mw : Nat → Int64) (y : Nat) : Nat → Nat → Prop := lE (rowL S mw y) (fun l m => iE S (rowL S mw y) (rowL S mw y).length l m ∨ oS S mw y S.P l m)
/-- the line is dead -/
def deG (S : Stk) (mw : Nat → Int64) (y l : Nat) : Prop := ∃ q, dS S mw y S.P l q
/-- the number of dead lines -/
noncomputable def dnG (S : Stk) (mw : Nat → Int64) (y : Nat) : Nat := cnt (dB (rowL S mw y) (deG S mw y)) (rowL S mw y).length
/-- what of a set and a file must hold so that its graph can be laid -/
def grS (S : Stk) (Z : StkA) (mw : Nat → Int64) (y : Nat) (PT LN : Nat → Nat) : Prop := grOK S (rowL S mw y) ∧ (∀ p, p < S.P → bt mw p = true → rfOK S y p (rowL S mw y)) ∧ (∀ x, x ∈ rowL S mw y → ∃ c8, S.lc x = nI c8 ∧ c8 < 38000 ∧ Z.cp c8 = nI (PT x) ∧ PT x < 500) ∧ (∀ x, x ∈ rowL S mw y → S.ll x = nI (LN x)) ∧ ∀ x, LN x ≤ 500
theorem sInv.rowl {S : Stk} (I : sInv S) (mw : Nat → Int64) (y : Nat) : (rowL S mw y).length ≤ 400 := by
  unfold rowL
  by_cases e : S.P = 0
  · rw [e]; exact Nat.zero_le _
  · obtain ⟨i, hi⟩ : ∃ i, S.P = i + 1 := ⟨S.P - 1, by omega⟩
    have h := I.lfit mw y (i := i) (by omega)
    rw [hi]
    show (lnU S mw y i ++ (if bt mw (S.BH i) = true then lnQ S y (S.BH i) (S.nT (S.BH i)) else [])).length ≤ 400
    rw [List.length_append]
    by_cases z : bt mw (S.BH i) = true
    · rw [if_pos z]; exact h
    · rw [if_neg z]
      show _ + 0 ≤ _
      omega
end
section
/-! 99e.put.lean.txt -/
theorem gw_188 : (Jvm.Cond.fieldLink "PatchStore$Maker" (128 : Nat) "PatchStore$Stock" "bytes" "[B") ∈ xg_1 := xg_s1 188 rfl rfl
theorem gw_449 : (Jvm.Cond.fieldLink "PatchStore$Maker" (86 : Nat) "PatchStore$Maker" "at" "I") ∈ xg_1 := xg_s2 209 rfl rfl
theorem gw_745 : (Jvm.Cond.constant "PatchStore$Maker" (127 : Nat) (290000 : Int32)) ∈ xg_1 := xg_s4 25 rfl rfl
theorem gw_750 : (Jvm.Cond.methodLink "PatchStore$Maker" (32 : Nat) ({ cls := "PatchStore$Maker", name := "put", desc := "(I)V" } : Jvm.MethodName)) ∈ xg_1 := xg_s4 30 rfl rfl
theorem gw_752 : (Jvm.Cond.instanceMethod ({ cls := "PatchStore$Maker", name := "put", desc := "(I)V" } : Jvm.MethodName)) ∈ xg_1 := xg_s4 32 rfl rfl
theorem gw_753 : (Jvm.Cond.code ({ cls := "PatchStore$Maker", name := "put", desc := "(I)V" } : Jvm.MethodName) prog_6_method_16_code (2 : Nat) (Option.none : Option Jvm.ClassFile.FieldType)) ∈ xg_1 := xg_s4 33 rfl rfl
def y_Mk_put : MethodName := ⟨"PatchStore$Maker", "put", "(I)V"⟩
abbrev c_Mk_put : Cond := (Jvm.Cond.code ({ cls := "PatchStore$Maker", name := "put", desc := "(I)V" } : Jvm.MethodName) prog_6_method_16_code (2 : Nat) (Option.none : Option Jvm.ClassFile.FieldType))
abbrev ws_Mk_put : List Cond := c_Mk_put :: xg_1
theorem d_Mk_put_0 : decode prog_6_method_16_code 0 = .ok (.aload_n 0, 1) := by decide +kernel
theorem d_Mk_put_1 : decode prog_6_method_16_code 1 = .ok (.getfield 86, 3) := by decide +kernel
theorem d_Mk_put_4 : decode prog_6_method_16_code 4 = .ok (.ldc 127, 2) := by decide +kernel
theorem d_Mk_put_6 : decode prog_6_method_16_code 6 = .ok (.if_icmp .ge 27, 3) := by decide +kernel
theorem d_Mk_put_9 : decode prog_6_method_16_code 9 = .ok (.aload_n 0, 1) := by decide +kernel
theorem d_Mk_put_10 : decode prog_6_method_16_code 10 = .ok (.getfield 18, 3) := by decide +kernel
theorem d_Mk_put_13 : decode prog_6_method_16_code 13 = .ok (.getfield 128, 3) := by decide +kernel
theorem d_Mk_put_16 : decode prog_6_method_16_code 16 = .ok (.aload_n 0, 1) := by decide +kernel
theorem d_Mk_put_17 : decode prog_6_method_16_code 17 = .ok (.getfield 86, 3) := by decide +kernel
theorem d_Mk_put_20 : decode prog_6_method_16_code 20 = .ok (.iload_n 1, 1) := by decide +kernel
theorem d_Mk_put_21 : decode prog_6_method_16_code 21 = .ok (.i2b, 1) := by decide +kernel
theorem d_Mk_put_22 : decode prog_6_method_16_code 22 = .ok (.bastore, 1) := by decide +kernel
theorem d_Mk_put_23 : decode prog_6_method_16_code 23 = .ok (.aload_n 0, 1) := by decide +kernel
theorem d_Mk_put_24 : decode prog_6_method_16_code 24 = .ok (.dup, 1) := by decide +kernel
theorem d_Mk_put_25 : decode prog_6_method_16_code 25 = .ok (.getfield 86, 3) := by decide +kernel
theorem d_Mk_put_28 : decode prog_6_method_16_code 28 = .ok (.iconst 1, 1) := by decide +kernel
theorem d_Mk_put_29 : decode prog_6_method_16_code 29 = .ok (.iadd, 1) := by decide +kernel
theorem d_Mk_put_30 : decode prog_6_method_16_code 30 = .ok (.putfield 86, 3) := by decide +kernel
theorem d_Mk_put_33 : decode prog_6_method_16_code 33 = .ok (.return_, 1) := by decide +kernel
def y_Mk_putTwo : MethodName := ⟨"PatchStore$Maker", "putTwo", "(I)V"⟩
abbrev c_Mk_putTwo : Cond := (Jvm.Cond.code ({ cls := "PatchStore$Maker", name := "putTwo", desc := "(I)V" } : Jvm.MethodName) prog_6_method_14_code (2 : Nat) (Option.none : Option Jvm.ClassFile.FieldType))
abbrev ws_Mk_putTwo : List Cond := c_Mk_putTwo :: xg_1
theorem d_Mk_putTwo_0 : decode prog_6_method_14_code 0 = .ok (.aload_n 0, 1) := by decide +kernel
theorem d_Mk_putTwo_1 : decode prog_6_method_14_code 1 = .ok (.getfield 86, 3) := by decide +kernel
theorem d_Mk_putTwo_4 : decode prog_6_method_14_code 4 = .ok (.iconst 1, 1) := by decide +kernel
theorem d_Mk_putTwo_5 : decode prog_6_method_14_code 5 = .ok (.iadd, 1) := by decide +kernel
theorem d_Mk_putTwo_6 : decode prog_6_method_14_code 6 = .ok (.ldc 127, 2) := by decide +kernel
theorem d_Mk_putTwo_8 : decode prog_6_method_14_code 8 = .ok (.if_icmp .ge 46, 3) := by decide +kernel
theorem d_Mk_putTwo_11 : decode prog_6_method_14_code 11 = .ok (.aload_n 0, 1) := by decide +kernel
theorem d_Mk_putTwo_12 : decode prog_6_method_14_code 12 = .ok (.getfield 18, 3) := by decide +kernel
theorem d_Mk_putTwo_15 : decode prog_6_method_14_code 15 = .ok (.getfield 128, 3) := by decide +kernel
theorem d_Mk_putTwo_18 : decode prog_6_method_14_code 18 = .ok (.aload_n 0, 1) := by decide +kernel
theorem d_Mk_putTwo_19 : decode prog_6_method_14_code 19 = .ok (.getfield 86, 3) := by decide +kernel
theorem d_Mk_putTwo_22 : decode prog_6_method_14_code 22 = .ok (.iload_n 1, 1) := by decide +kernel
theorem d_Mk_putTwo_23 : decode prog_6_method_14_code 23 = .ok (.bipush 8, 2) := by decide +kernel
theorem d_Mk_putTwo_25 : decode prog_6_method_14_code 25 = .ok (.ishr, 1) := by decide +kernel
theorem d_Mk_putTwo_26 : decode prog_6_method_14_code 26 = .ok (.i2b, 1) := by decide +kernel
theorem d_Mk_putTwo_27 : decode prog_6_method_14_code 27 = .ok (.bastore, 1) := by decide +kernel
theorem d_Mk_putTwo_28 : decode prog_6_method_14_code 28 = .ok (.aload_n 0, 1) := by decide +kernel
theorem d_Mk_putTwo_29 : decode prog_6_method_14_code 29 = .ok (.getfield 18, 3) := by decide +kernel
theorem d_Mk_putTwo_32 : decode prog_6_method_14_code 32 = .ok (.getfield 128, 3) := by decide +kernel
theorem d_Mk_putTwo_35 : decode prog_6_method_14_code 35 = .ok (.aload_n 0, 1) := by decide +kernel
theorem d_Mk_putTwo_36 : decode prog_6_method_14_code 36 = .ok (.getfield 86, 3) := by decide +kernel
theorem d_Mk_putTwo_39 : decode prog_6_method_14_code 39 = .ok (.iconst 1, 1) := by decide +kernel
theorem d_Mk_putTwo_40 : decode prog_6_method_14_code 40 = .ok (.iadd, 1) := by decide +kernel
theorem d_Mk_putTwo_41 : decode prog_6_method_14_code 41 = .ok (.iload_n 1, 1) := by decide +kernel
theorem d_Mk_putTwo_42 : decode prog_6_method_14_code 42 = .ok (.i2b, 1) := by decide +kernel
theorem d_Mk_putTwo_43 : decode prog_6_method_14_code 43 = .ok (.bastore, 1) := by decide +kernel
theorem d_Mk_putTwo_44 : decode prog_6_method_14_code 44 = .ok (.aload_n 0, 1) := by decide +kernel
theorem d_Mk_putTwo_45 : decode prog_6_method_14_code 45 = .ok (.dup, 1) := by decide +kernel
theorem d_Mk_putTwo_46 : decode prog_6_method_14_code 46 = .ok (.getfield 86, 3) := by decide +kernel
theorem d_Mk_putTwo_49 : decode prog_6_method_14_code 49 = .ok (.iconst 2, 1) := by decide +kernel
theorem d_Mk_putTwo_50 : decode prog_6_method_14_code 50 = .ok (.iadd, 1) := by decide +kernel
theorem d_Mk_putTwo_51 : decode prog_6_method_14_code 51 = .ok (.putfield 86, 3) := by decide +kernel
theorem d_Mk_putTwo_54 : decode prog_6_method_14_code 54 = .ok (.return_, 1) := by decide +kernel
def y_Mk_putBytes : MethodName := ⟨"PatchStore$Maker", "putBytes", "([BII)V"⟩
abbrev c_Mk_putBytes : Cond := (Jvm.Cond.code ({ cls := "PatchStore$Maker", name := "putBytes", desc := "([BII)V" } : Jvm.MethodName) prog_6_method_15_code (5 : Nat) (Option.none : Option Jvm.ClassFile.FieldType))
abbrev ws_Mk_putBytes : List Cond := c_Mk_putBytes :: xg_1
theorem d_Mk_putBytes_0 : decode prog_6_method_15_code 0 = .ok (.iconst 0, 1) := by decide +kernel
theorem d_Mk_putBytes_1 : decode prog_6_method_15_code 1 = .ok (.istore 4, 2) := by decide +kernel
theorem d_Mk_putBytes_3 : decode prog_6_method_15_code 3 = .ok (.iload 4, 2) := by decide +kernel
theorem d_Mk_putBytes_5 : decode prog_6_method_15_code 5 = .ok (.iload_n 3, 1) := by decide +kernel
theorem d_Mk_putBytes_6 : decode prog_6_method_15_code 6 = .ok (.if_icmp .ge 19, 3) := by decide +kernel
theorem d_Mk_putBytes_9 : decode prog_6_method_15_code 9 = .ok (.aload_n 0, 1) := by decide +kernel
theorem d_Mk_putBytes_10 : decode prog_6_method_15_code 10 = .ok (.aload_n 1, 1) := by decide +kernel
theorem d_Mk_putBytes_11 : decode prog_6_method_15_code 11 = .ok (.iload_n 2, 1) := by decide +kernel
theorem d_Mk_putBytes_12 : decode prog_6_method_15_code 12 = .ok (.iload 4, 2) := by decide +kernel
theorem d_Mk_putBytes_14 : decode prog_6_method_15_code 14 = .ok (.iadd, 1) := by decide +kernel
theorem d_Mk_putBytes_15 : decode prog_6_method_15_code 15 = .ok (.baload, 1) := by decide +kernel
theorem d_Mk_putBytes_16 : decode prog_6_method_15_code 16 = .ok (.invokevirtual 32, 3) := by decide +kernel
theorem d_Mk_putBytes_19 : decode prog_6_method_15_code 19 = .ok (.iinc 4 1, 3) := by decide +kernel
theorem d_Mk_putBytes_22 : decode prog_6_method_15_code 22 = .ok (.goto (-19), 3) := by decide +kernel
theorem d_Mk_putBytes_25 : decode prog_6_method_15_code 25 = .ok (.return_, 1) := by decide +kernel
/-- the bytes WL written over b from a on -/
def wrL (b : Nat → Int32) (a : Nat) (L : List Int32) : Nat → Int32 := fun k => if a ≤ k ∧ k < a + L.length then L.getD (k - a) 0 else b k
theorem wrL_nil (b : Nat → Int32) (a : Nat) : wrL b a [] = b := by
  funext k
  unfold wrL
  exact if_neg (fun z => absurd z.2 (by show ¬ k < a + 0; omega))
theorem wrL_push (b : Nat → Int32) (a : Nat) (L : List Int32) (v : Int32) : upd (wrL b a L) (a + L.length) v = wrL b a (L ++ [v]) := by
  have hl : (L ++ [v]).length = L.length + 1 := by rw [List.length_append]; rfl
  funext k
  by_cases e : k = a + L.length
  · subst e
    rw [upd_eq]
    unfold wrL
    rw [if_pos (by omega), Nat.add_sub_cancel_left, List.getD_eq_getElem?_getD, List.getElem?_append_right (Nat.le_refl _), Nat.sub_self]
    rfl
  · rw [upd_ne _ e]
    unfold wrL
    by_cases z : a ≤ k ∧ k < a + L.length
    · rw [if_pos z, if_pos (by omega), List.getD_eq_getElem?_getD, List.getD_eq_getElem?_getD, List.getElem?_append_left (by omega)]
    · rw [if_neg z, if_neg (by omega)]
/-- a byte -/
def by1 (v : Int32) : Int32 := v.toInt8.toInt32
/-- two bytes -/
def by2 (v : Int32) : List Int32 := [by1 (v >>> (8 &&& 31)), by1 v]
theorem len1 (L : List Int32) (v : Int32) : L.length + 1 = (L ++ [v]).length := by rw [List.length_append]; rfl
theorem len2 (L : List Int32) (v : Int32) : L.length + 2 = (L ++ by2 v).length := by rw [List.length_append]; rfl
theorem wrL_two (b : Nat → Int32) (a : Nat) (L : List Int32) (v : Int32) : upd (upd (wrL b a L) (a + L.length) (by1 (v >>> (8 &&& 31)))) (a + L.length + 1) (by1 v) = wrL b a (L ++ by2 v) := by
  rw [wrL_push, Nat.add_assoc, len1 L (by1 (v >>> (8 &&& 31))), wrL_push, List.append_assoc]
  rfl
/-- n bytes of g from a on -/
def byL (g : Nat → Int32) (a : Nat) : Nat → List Int32
  | 0 => []
  | n + 1 => byL g a n ++ [g (a + n)]
theorem byL_len (g : Nat → Int32) (a : Nat) : ∀ n, (byL g a n).length = n
  | 0 => rfl
  | n + 1 => by
    show (byL g a n ++ [g (a + n)]).length = n + 1
    rw [List.length_append, byL_len g a n]; rfl
set_option maxHeartbeats 4000000 in
set_option maxRecDepth 100000 in
/-- a byte is put -/
theorem m_Mk_put (l : Launch) (dC : Nat → ClassId) (dI : Nat → Nat → Nat) (cI cB cL cZ cR : ClassId) (h sk b_y : Nat) (mk_named mk_places mk_changes sk_from sk_firstDependency sk_firstChange sk_dependencies sk_hashes sk_byHash sk_leansOn sk_leantBy sk_changes sk_lines sk_patches : Value) (bb : Nat → Int32) (a0 : Nat) (WL : List Int32) (v9 : Int32) (sz : Nat) (hb9 : a0 + WL.length < 290000) : Met l y_Mk_put ws_Mk_put ({ frames := 0, cells := 0, slots := 0, locals := 0 }) (xw_Pc dC dI [(cI, .int), (cB, .byte), (cL, .long), (cZ, .boolean), (cR, .object "PatchStore$Repository")] [.ref h, .int v9] [(h, .inr (5, [.ref sk, mk_named, mk_places, .int (nI (a0 + WL.length)), mk_changes])), (sk, .inr (9, [.ref b_y, sk_from, sk_firstDependency, sk_firstChange, sk_dependencies, sk_hashes, sk_byHash, sk_leansOn, sk_leantBy, sk_changes, sk_lines, sk_patches])), (b_y, .inl (cB, 290000, .inl (wrL bb a0 WL)))] sz) (va_Qv (fun _ : Unit => True) (fun _ t => xw_B dC dI [(cI, .int), (cB, .byte), (cL, .long), (cZ, .boolean), (cR, .object "PatchStore$Repository")] (va_A [(h, .inr (5, [.ref sk, mk_named, mk_places, .int (nI (a0 + WL.length)), mk_changes])), (sk, .inr (9, [.ref b_y, sk_from, sk_firstDependency, sk_firstChange, sk_dependencies, sk_hashes, sk_byHash, sk_leansOn, sk_leantBy, sk_changes, sk_lines, sk_patches])), (b_y, .inl (cB, 290000, .inl (wrL bb a0 WL)))] sz) [(h, .inr (5, [.ref sk, mk_named, mk_places, .int (nI (a0 + (WL ++ [by1 v9]).length)), mk_changes])), (sk, .inr (9, [.ref b_y, sk_from, sk_firstDependency, sk_firstChange, sk_dependencies, sk_hashes, sk_byHash, sk_leansOn, sk_leantBy, sk_changes, sk_lines, sk_patches])), (b_y, .inl (cB, 290000, .inl (wrL bb a0 (WL ++ [by1 v9]))))] t) (va_A [(h, .inr (5, [.ref sk, mk_named, mk_places, .int (nI (a0 + WL.length)), mk_changes])), (sk, .inr (9, [.ref b_y, sk_from, sk_firstDependency, sk_firstChange, sk_dependencies, sk_hashes, sk_byHash, sk_leansOn, sk_leantBy, sk_changes, sk_lines, sk_patches])), (b_y, .inl (cB, 290000, .inl (wrL bb a0 WL)))] sz)) 0 0 (va_A [(h, .inr (5, [.ref sk, mk_named, mk_places, .int (nI (a0 + WL.length)), mk_changes])), (sk, .inr (9, [.ref b_y, sk_from, sk_firstDependency, sk_firstChange, sk_dependencies, sk_hashes, sk_byHash, sk_leansOn, sk_leantBy, sk_changes, sk_lines, sk_patches])), (b_y, .inl (cB, 290000, .inl (wrL bb a0 WL)))] sz) := by
  refine Met.ofW (cc := prog_6_method_16_code) (maxL := 2) (ret := none) (by decide) rfl ?_
  intro p e s m args below meth c s₁ B hml hv
  obtain ⟨rfl, hsz, hP, hK, hD0⟩ := hv
  have hx := B.exec
  have hb := B.bytes
  have hr := B.returns
  have hts0 := atoms_spec (ws := ws_Mk_put) B.pre
  have hts : ∀ w ∈ xg_1, w.before _ s = true := fun w h => hts0 w (List.mem_cons_of_mem _ h)
  have hown : s.vm.findClass "PatchStore$Maker" = some m.cls := findClass_of_methodNamed B.named
  have hlocks := B.notSynchronized
  subst hsz
  have hD := hD0.self (sz := s.heap.size)
  generalize hAe : va_A [(h, .inr (5, [.ref sk, mk_named, mk_places, .int (nI (a0 + WL.length)), mk_changes])), (sk, .inr (9, [.ref b_y, sk_from, sk_firstDependency, sk_firstChange, sk_dependencies, sk_hashes, sk_byHash, sk_leansOn, sk_leantBy, sk_changes, sk_lines, sk_patches])), (b_y, .inl (cB, 290000, .inl (wrL bb a0 WL)))] s.heap.size = A at hD ⊢
  have hA : ∀ q : Nat, s.heap.size ≤ q → A q := fun q h => by rw [← hAe]; exact Or.inr h
  have hS : va_S A s.heap s.heap [] := va_S.rf
  have hl := lv_entry ([.ref h, .int v9]) (n := 2) (Nat.le_of_ble_eq_true rfl)
  rw [lg_entry_eq]
  generalize (lg_sl ([.ref h, .int v9]) ++ List.replicate (2 - (lg_sl ([.ref h, .int v9])).length) Slot.unset).toArray = ls at hl ⊢
  have hl : lv_has ls 2 [(0, .ref h), (1, .int v9)] := hl
  refine lv_aload_n hx hb d_Mk_put_0 rfl (lv_at hl 0 rfl) ?_
  refine va_get (D := (dC, dI)) (ci := 5) (v := .int (nI (a0 + WL.length))) (C := R_Mk) (T := F_Mk) (N := 5) hx hb hts i_Mk hown hK hP 0 rfl rfl 3 (by decide) (hts _ gw_449) (fun _ h9 => h9) rfl d_Mk_put_1 ?_
  refine lv_ldc (own := "PatchStore$Maker") hx hb hown (hts _ gw_745) d_Mk_put_4 ?_
  refine lv_icmp_ge (tgt := 33) hx hb d_Mk_put_6 (by decide) (fun c_6 => absurd c_6 (fun z => absurd ((nI_leI (a := 290000) (b := a0 + WL.length) (by omega) (by omega)).mp z) (by omega))) (fun _ => ?_)
  refine lv_aload_n hx hb d_Mk_put_9 rfl (lv_at hl 0 rfl) ?_
  refine va_get (D := (dC, dI)) (ci := 5) (v := .ref sk) (C := R_Mk) (T := F_Mk) (N := 5) hx hb hts i_Mk hown hK hP 0 rfl rfl 0 (by decide) (hts _ gw_446) (fun _ h9 => h9) rfl d_Mk_put_10 ?_
  refine va_get (D := (dC, dI)) (ci := 9) (v := .ref b_y) (C := R_St) (T := F_St) (N := 12) hx hb hts i_St hown hK hP 1 rfl rfl 0 (by decide) (hts _ gw_188) (fun _ h9 => h9) rfl d_Mk_put_13 ?_
  refine lv_aload_n hx hb d_Mk_put_16 rfl (lv_at hl 0 rfl) ?_
  refine va_get (D := (dC, dI)) (ci := 5) (v := .int (nI (a0 + WL.length))) (C := R_Mk) (T := F_Mk) (N := 5) hx hb hts i_Mk hown hK hP 0 rfl rfl 3 (by decide) (hts _ gw_449) (fun _ h9 => h9) rfl d_Mk_put_17 ?_
  refine lv_iload_n hx hb d_Mk_put_20 rfl (lv_at hl 1 rfl) ?_
  refine lv_i2b hx hb d_Mk_put_21 rfl ?_
  refine va_bast hx hb hK hP hD hS 2 1 rfl rfl (vp_in_nI (by omega) (by omega)) d_Mk_put_22 (fun H locs hP hD hS => ?_)
  rw [show (nI (a0 + WL.length)).toNatClampNeg = (a0 + WL.length) from nI_clamp (by omega)] at hP hD
  rw [pk_vb] at hP hD
  have hP : va_P (dC, dI) classes [(h, .inr (5, [.ref sk, mk_named, mk_places, .int (nI (a0 + WL.length)), mk_changes])), (sk, .inr (9, [.ref b_y, sk_from, sk_firstDependency, sk_firstChange, sk_dependencies, sk_hashes, sk_byHash, sk_leansOn, sk_leantBy, sk_changes, sk_lines, sk_patches])), (b_y, .inl (cB, 290000, .inl (upd (wrL bb a0 WL) (a0 + WL.length) ((v9 : Int32).toInt8.toInt32))))] H := hP
  have hD : va_D A [(h, .inr (5, [.ref sk, mk_named, mk_places, .int (nI (a0 + WL.length)), mk_changes])), (sk, .inr (9, [.ref b_y, sk_from, sk_firstDependency, sk_firstChange, sk_dependencies, sk_hashes, sk_byHash, sk_leansOn, sk_leantBy, sk_changes, sk_lines, sk_patches])), (b_y, .inl (cB, 290000, .inl (upd (wrL bb a0 WL) (a0 + WL.length) ((v9 : Int32).toInt8.toInt32))))] := hD
  refine lv_aload_n hx hb d_Mk_put_23 rfl (lv_at hl 0 rfl) ?_
  refine lv_dup hx hb d_Mk_put_24 rfl ?_
  refine va_get (D := (dC, dI)) (ci := 5) (v := .int (nI (a0 + WL.length))) (C := R_Mk) (T := F_Mk) (N := 5) hx hb hts i_Mk hown hK hP 0 rfl rfl 3 (by decide) (hts _ gw_449) (fun _ h9 => h9) rfl d_Mk_put_25 ?_
  refine lv_iconst (v := 1) hx hb d_Mk_put_28 (by decide) ?_
  refine lv_iadd hx hb d_Mk_put_29 ?_
  refine lv_topi (fun x_1 ex_1 => ?_)
  obtain rfl : x_1 = nI (a0 + WL.length + 1) := by rw [ex_1]; first | done | (exact nI_add _ _)
  refine va_put (D := (dC, dI)) (ci := 5) (v := .int (nI (a0 + WL.length + 1))) (ty := .int) (C := R_Mk) (T := F_Mk) (N := 5) hx hb hts i_Mk t_Mk t_Mk_ok n_Mk hown hK hP hD hS 0 rfl rfl 3 (by decide) (hts _ gw_449) (fun _ h9 => h9) rfl (by decide +kernel) rfl rfl (Nat.le_of_ble_eq_true rfl) d_Mk_put_30 (fun H locs hP hD hS => ?_)
  have hP : va_P (dC, dI) classes [(h, .inr (5, [.ref sk, mk_named, mk_places, .int (nI (a0 + WL.length + 1)), mk_changes])), (sk, .inr (9, [.ref b_y, sk_from, sk_firstDependency, sk_firstChange, sk_dependencies, sk_hashes, sk_byHash, sk_leansOn, sk_leantBy, sk_changes, sk_lines, sk_patches])), (b_y, .inl (cB, 290000, .inl (upd (wrL bb a0 WL) (a0 + WL.length) ((v9 : Int32).toInt8.toInt32))))] H := hP
  have hD : va_D A [(h, .inr (5, [.ref sk, mk_named, mk_places, .int (nI (a0 + WL.length + 1)), mk_changes])), (sk, .inr (9, [.ref b_y, sk_from, sk_firstDependency, sk_firstChange, sk_dependencies, sk_hashes, sk_byHash, sk_leansOn, sk_leantBy, sk_changes, sk_lines, sk_patches])), (b_y, .inl (cB, 290000, .inl (upd (wrL bb a0 WL) (a0 + WL.length) ((v9 : Int32).toInt8.toInt32))))] := hD
  rw [show upd (wrL bb a0 WL) (a0 + WL.length) ((v9 : Int32).toInt8.toInt32) = wrL bb a0 (WL ++ [by1 v9]) from wrL_push _ _ _ _, show nI (a0 + WL.length + 1) = nI (a0 + (WL ++ [by1 v9]).length) from congrArg nI (by rw [Nat.add_assoc, len1 WL (by1 v9)])] at hP hD
  exact W.vret hx hb hr (fun t ht hW => ⟨⟨(), rfl, trivial, by rw [ht]; exact hP, va_K.moved hW.alike hK, hD⟩, hS.F ht⟩) hS.2.2 d_Mk_put_33
set_option maxHeartbeats 4000000 in
set_option maxRecDepth 100000 in
/-- two bytes are put -/
theorem m_Mk_putTwo (l : Launch) (dC : Nat → ClassId) (dI : Nat → Nat → Nat) (cI cB cL cZ cR : ClassId) (h sk b_y : Nat) (mk_named mk_places mk_changes sk_from sk_firstDependency sk_firstChange sk_dependencies sk_hashes sk_byHash sk_leansOn sk_leantBy sk_changes sk_lines sk_patches : Value) (bb : Nat → Int32) (a0 : Nat) (WL : List Int32) (v9 : Int32) (sz : Nat) (hb9 : a0 + WL.length + 1 < 290000) : Met l y_Mk_putTwo ws_Mk_putTwo ({ frames := 0, cells := 0, slots := 0, locals := 0 }) (xw_Pc dC dI [(cI, .int), (cB, .byte), (cL, .long), (cZ, .boolean), (cR, .object "PatchStore$Repository")] [.ref h, .int v9] [(h, .inr (5, [.ref sk, mk_named, mk_places, .int (nI (a0 + WL.length)), mk_changes])), (sk, .inr (9, [.ref b_y, sk_from, sk_firstDependency, sk_firstChange, sk_dependencies, sk_hashes, sk_byHash, sk_leansOn, sk_leantBy, sk_changes, sk_lines, sk_patches])), (b_y, .inl (cB, 290000, .inl (wrL bb a0 WL)))] sz) (va_Qv (fun _ : Unit => True) (fun _ t => xw_B dC dI [(cI, .int), (cB, .byte), (cL, .long), (cZ, .boolean), (cR, .object "PatchStore$Repository")] (va_A [(h, .inr (5, [.ref sk, mk_named, mk_places, .int (nI (a0 + WL.length)), mk_changes])), (sk, .inr (9, [.ref b_y, sk_from, sk_firstDependency, sk_firstChange, sk_dependencies, sk_hashes, sk_byHash, sk_leansOn, sk_leantBy, sk_changes, sk_lines, sk_patches])), (b_y, .inl (cB, 290000, .inl (wrL bb a0 WL)))] sz) [(h, .inr (5, [.ref sk, mk_named, mk_places, .int (nI (a0 + (WL ++ by2 v9).length)), mk_changes])), (sk, .inr (9, [.ref b_y, sk_from, sk_firstDependency, sk_firstChange, sk_dependencies, sk_hashes, sk_byHash, sk_leansOn, sk_leantBy, sk_changes, sk_lines, sk_patches])), (b_y, .inl (cB, 290000, .inl (wrL bb a0 (WL ++ by2 v9))))] t) (va_A [(h, .inr (5, [.ref sk, mk_named, mk_places, .int (nI (a0 + WL.length)), mk_changes])), (sk, .inr (9, [.ref b_y, sk_from, sk_firstDependency, sk_firstChange, sk_dependencies, sk_hashes, sk_byHash, sk_leansOn, sk_leantBy, sk_changes, sk_lines, sk_patches])), (b_y, .inl (cB, 290000, .inl (wrL bb a0 WL)))] sz)) 0 0 (va_A [(h, .inr (5, [.ref sk, mk_named, mk_places, .int (nI (a0 + WL.length)), mk_changes])), (sk, .inr (9, [.ref b_y, sk_from, sk_firstDependency, sk_firstChange, sk_dependencies, sk_hashes, sk_byHash, sk_leansOn, sk_leantBy, sk_changes, sk_lines, sk_patches])), (b_y, .inl (cB, 290000, .inl (wrL bb a0 WL)))] sz) := by
  refine Met.ofW (cc := prog_6_method_14_code) (maxL := 2) (ret := none) (by decide) rfl ?_
  intro p e s m args below meth c s₁ B hml hv
  obtain ⟨rfl, hsz, hP, hK, hD0⟩ := hv
  have hx := B.exec
  have hb := B.bytes
  have hr := B.returns
  have hts0 := atoms_spec (ws := ws_Mk_putTwo) B.pre
  have hts : ∀ w ∈ xg_1, w.before _ s = true := fun w h => hts0 w (List.mem_cons_of_mem _ h)
  have hown : s.vm.findClass "PatchStore$Maker" = some m.cls := findClass_of_methodNamed B.named
  have hlocks := B.notSynchronized
  subst hsz
  have hD := hD0.self (sz := s.heap.size)
  generalize hAe : va_A [(h, .inr (5, [.ref sk, mk_named, mk_places, .int (nI (a0 + WL.length)), mk_changes])), (sk, .inr (9, [.ref b_y, sk_from, sk_firstDependency, sk_firstChange, sk_dependencies, sk_hashes, sk_byHash, sk_leansOn, sk_leantBy, sk_changes, sk_lines, sk_patches])), (b_y, .inl (cB, 290000, .inl (wrL bb a0 WL)))] s.heap.size = A at hD ⊢
  have hA : ∀ q : Nat, s.heap.size ≤ q → A q := fun q h => by rw [← hAe]; exact Or.inr h
  have hS : va_S A s.heap s.heap [] := va_S.rf
  have hl := lv_entry ([.ref h, .int v9]) (n := 2) (Nat.le_of_ble_eq_true rfl)
  rw [lg_entry_eq]
  generalize (lg_sl ([.ref h, .int v9]) ++ List.replicate (2 - (lg_sl ([.ref h, .int v9])).length) Slot.unset).toArray = ls at hl ⊢
  have hl : lv_has ls 2 [(0, .ref h), (1, .int v9)] := hl
  refine lv_aload_n hx hb d_Mk_putTwo_0 rfl (lv_at hl 0 rfl) ?_
  refine va_get (D := (dC, dI)) (ci := 5) (v := .int (nI (a0 + WL.length))) (C := R_Mk) (T := F_Mk) (N := 5) hx hb hts i_Mk hown hK hP 0 rfl rfl 3 (by decide) (hts _ gw_449) (fun _ h9 => h9) rfl d_Mk_putTwo_1 ?_
  refine lv_iconst (v := 1) hx hb d_Mk_putTwo_4 (by decide) ?_
  refine lv_iadd hx hb d_Mk_putTwo_5 ?_
  refine lv_topi (fun x_1 ex_1 => ?_)
  obtain rfl : x_1 = nI (a0 + WL.length + 1) := by rw [ex_1]; first | done | (exact nI_add _ _)
  refine lv_ldc (own := "PatchStore$Maker") hx hb hown (hts _ gw_745) d_Mk_putTwo_6 ?_
  refine lv_icmp_ge (tgt := 54) hx hb d_Mk_putTwo_8 (by decide) (fun c_8 => absurd c_8 (fun z => absurd ((nI_leI (a := 290000) (b := a0 + WL.length + 1) (by omega) (by omega)).mp z) (by omega))) (fun _ => ?_)
  refine lv_aload_n hx hb d_Mk_putTwo_11 rfl (lv_at hl 0 rfl) ?_
  refine va_get (D := (dC, dI)) (ci := 5) (v := .ref sk) (C := R_Mk) (T := F_Mk) (N := 5) hx hb hts i_Mk hown hK hP 0 rfl rfl 0 (by decide) (hts _ gw_446) (fun _ h9 => h9) rfl d_Mk_putTwo_12 ?_
  refine va_get (D := (dC, dI)) (ci := 9) (v := .ref b_y) (C := R_St) (T := F_St) (N := 12) hx hb hts i_St hown hK hP 1 rfl rfl 0 (by decide) (hts _ gw_188) (fun _ h9 => h9) rfl d_Mk_putTwo_15 ?_
  refine lv_aload_n hx hb d_Mk_putTwo_18 rfl (lv_at hl 0 rfl) ?_
  refine va_get (D := (dC, dI)) (ci := 5) (v := .int (nI (a0 + WL.length))) (C := R_Mk) (T := F_Mk) (N := 5) hx hb hts i_Mk hown hK hP 0 rfl rfl 3 (by decide) (hts _ gw_449) (fun _ h9 => h9) rfl d_Mk_putTwo_19 ?_
  refine lv_iload_n hx hb d_Mk_putTwo_22 rfl (lv_at hl 1 rfl) ?_
  refine lv_bipush (v := 8) hx hb d_Mk_putTwo_23 (by decide) ?_
  refine lv_ishr hx hb d_Mk_putTwo_25 ?_
  refine lv_i2b hx hb d_Mk_putTwo_26 rfl ?_
  refine va_bast hx hb hK hP hD hS 2 1 rfl rfl (vp_in_nI (by omega) (by omega)) d_Mk_putTwo_27 (fun H locs hP hD hS => ?_)
  rw [show (nI (a0 + WL.length)).toNatClampNeg = (a0 + WL.length) from nI_clamp (by omega)] at hP hD
  rw [pk_vb] at hP hD
  have hP : va_P (dC, dI) classes [(h, .inr (5, [.ref sk, mk_named, mk_places, .int (nI (a0 + WL.length)), mk_changes])), (sk, .inr (9, [.ref b_y, sk_from, sk_firstDependency, sk_firstChange, sk_dependencies, sk_hashes, sk_byHash, sk_leansOn, sk_leantBy, sk_changes, sk_lines, sk_patches])), (b_y, .inl (cB, 290000, .inl (upd (wrL bb a0 WL) (a0 + WL.length) ((v9 >>> (8 &&& 31) : Int32).toInt8.toInt32))))] H := hP
  have hD : va_D A [(h, .inr (5, [.ref sk, mk_named, mk_places, .int (nI (a0 + WL.length)), mk_changes])), (sk, .inr (9, [.ref b_y, sk_from, sk_firstDependency, sk_firstChange, sk_dependencies, sk_hashes, sk_byHash, sk_leansOn, sk_leantBy, sk_changes, sk_lines, sk_patches])), (b_y, .inl (cB, 290000, .inl (upd (wrL bb a0 WL) (a0 + WL.length) ((v9 >>> (8 &&& 31) : Int32).toInt8.toInt32))))] := hD
  refine lv_aload_n hx hb d_Mk_putTwo_28 rfl (lv_at hl 0 rfl) ?_
  refine va_get (D := (dC, dI)) (ci := 5) (v := .ref sk) (C := R_Mk) (T := F_Mk) (N := 5) hx hb hts i_Mk hown hK hP 0 rfl rfl 0 (by decide) (hts _ gw_446) (fun _ h9 => h9) rfl d_Mk_putTwo_29 ?_
  refine va_get (D := (dC, dI)) (ci := 9) (v := .ref b_y) (C := R_St) (T := F_St) (N := 12) hx hb hts i_St hown hK hP 1 rfl rfl 0 (by decide) (hts _ gw_188) (fun _ h9 => h9) rfl d_Mk_putTwo_32 ?_
  refine lv_aload_n hx hb d_Mk_putTwo_35 rfl (lv_at hl 0 rfl) ?_
  refine va_get (D := (dC, dI)) (ci := 5) (v := .int (nI (a0 + WL.length))) (C := R_Mk) (T := F_Mk) (N := 5) hx hb hts i_Mk hown hK hP 0 rfl rfl 3 (by decide) (hts _ gw_449) (fun _ h9 => h9) rfl d_Mk_putTwo_36 ?_
  refine lv_iconst (v := 1) hx hb d_Mk_putTwo_39 (by decide) ?_
  refine lv_iadd hx hb d_Mk_putTwo_40 ?_
  refine lv_topi (fun x_2 ex_2 => ?_)
  obtain rfl : x_2 = nI (a0 + WL.length + 1) := by rw [ex_2]; first | done | (exact nI_add _ _)
  refine lv_iload_n hx hb d_Mk_putTwo_41 rfl (lv_at hl 1 rfl) ?_
  refine lv_i2b hx hb d_Mk_putTwo_42 rfl ?_
  refine va_bast hx hb hK hP hD hS 2 1 rfl rfl (vp_in_nI (by omega) (by omega)) d_Mk_putTwo_43 (fun H locs hP hD hS => ?_)
  rw [show (nI (a0 + WL.length + 1)).toNatClampNeg = (a0 + WL.length + 1) from nI_clamp (by omega)] at hP hD
  rw [pk_vb] at hP hD
  have hP : va_P (dC, dI) classes [(h, .inr (5, [.ref sk, mk_named, mk_places, .int (nI (a0 + WL.length)), mk_changes])), (sk, .inr (9, [.ref b_y, sk_from, sk_firstDependency, sk_firstChange, sk_dependencies, sk_hashes, sk_byHash, sk_leansOn, sk_leantBy, sk_changes, sk_lines, sk_patches])), (b_y, .inl (cB, 290000, .inl (upd (upd (wrL bb a0 WL) (a0 + WL.length) ((v9 >>> (8 &&& 31) : Int32).toInt8.toInt32)) (a0 + WL.length + 1) ((v9 : Int32).toInt8.toInt32))))] H := hP
  have hD : va_D A [(h, .inr (5, [.ref sk, mk_named, mk_places, .int (nI (a0 + WL.length)), mk_changes])), (sk, .inr (9, [.ref b_y, sk_from, sk_firstDependency, sk_firstChange, sk_dependencies, sk_hashes, sk_byHash, sk_leansOn, sk_leantBy, sk_changes, sk_lines, sk_patches])), (b_y, .inl (cB, 290000, .inl (upd (upd (wrL bb a0 WL) (a0 + WL.length) ((v9 >>> (8 &&& 31) : Int32).toInt8.toInt32)) (a0 + WL.length + 1) ((v9 : Int32).toInt8.toInt32))))] := hD
  refine lv_aload_n hx hb d_Mk_putTwo_44 rfl (lv_at hl 0 rfl) ?_
  refine lv_dup hx hb d_Mk_putTwo_45 rfl ?_
  refine va_get (D := (dC, dI)) (ci := 5) (v := .int (nI (a0 + WL.length))) (C := R_Mk) (T := F_Mk) (N := 5) hx hb hts i_Mk hown hK hP 0 rfl rfl 3 (by decide) (hts _ gw_449) (fun _ h9 => h9) rfl d_Mk_putTwo_46 ?_
  refine lv_iconst (v := 2) hx hb d_Mk_putTwo_49 (by decide) ?_
  refine lv_iadd hx hb d_Mk_putTwo_50 ?_
  refine lv_topi (fun x_3 ex_3 => ?_)
  obtain rfl : x_3 = nI (a0 + WL.length + 2) := by rw [ex_3]; first | done | (exact nI_add _ _)
  refine va_put (D := (dC, dI)) (ci := 5) (v := .int (nI (a0 + WL.length + 2))) (ty := .int) (C := R_Mk) (T := F_Mk) (N := 5) hx hb hts i_Mk t_Mk t_Mk_ok n_Mk hown hK hP hD hS 0 rfl rfl 3 (by decide) (hts _ gw_449) (fun _ h9 => h9) rfl (by decide +kernel) rfl rfl (Nat.le_of_ble_eq_true rfl) d_Mk_putTwo_51 (fun H locs hP hD hS => ?_)
  have hP : va_P (dC, dI) classes [(h, .inr (5, [.ref sk, mk_named, mk_places, .int (nI (a0 + WL.length + 2)), mk_changes])), (sk, .inr (9, [.ref b_y, sk_from, sk_firstDependency, sk_firstChange, sk_dependencies, sk_hashes, sk_byHash, sk_leansOn, sk_leantBy, sk_changes, sk_lines, sk_patches])), (b_y, .inl (cB, 290000, .inl (upd (upd (wrL bb a0 WL) (a0 + WL.length) ((v9 >>> (8 &&& 31) : Int32).toInt8.toInt32)) (a0 + WL.length + 1) ((v9 : Int32).toInt8.toInt32))))] H := hP
  have hD : va_D A [(h, .inr (5, [.ref sk, mk_named, mk_places, .int (nI (a0 + WL.length + 2)), mk_changes])), (sk, .inr (9, [.ref b_y, sk_from, sk_firstDependency, sk_firstChange, sk_dependencies, sk_hashes, sk_byHash, sk_leansOn, sk_leantBy, sk_changes, sk_lines, sk_patches])), (b_y, .inl (cB, 290000, .inl (upd (upd (wrL bb a0 WL) (a0 + WL.length) ((v9 >>> (8 &&& 31) : Int32).toInt8.toInt32)) (a0 + WL.length + 1) ((v9 : Int32).toInt8.toInt32))))] := hD
  rw [show upd (upd (wrL bb a0 WL) (a0 + WL.length) ((v9 >>> (8 &&& 31) : Int32).toInt8.toInt32)) (a0 + WL.length + 1) ((v9 : Int32).toInt8.toInt32) = wrL bb a0 (WL ++ by2 v9) from wrL_two _ _ _ _, show nI (a0 + WL.length + 2) = nI (a0 + (WL ++ by2 v9).length) from congrArg nI (by rw [Nat.add_assoc, len2 WL v9])] at hP hD
  exact W.vret hx hb hr (fun t ht hW => ⟨⟨(), rfl, trivial, by rw [ht]; exact hP, va_K.moved hW.alike hK, hD⟩, hS.F ht⟩) hS.2.2 d_Mk_putTwo_54
set_option maxHeartbeats 4000000 in
set_option maxRecDepth 100000 in
/-- bytes are put -/
theorem m_Mk_putBytes (l : Launch) (dC : Nat → ClassId) (dI : Nat → Nat → Nat) (cI cB cL cZ cR : ClassId) (h sk b_y sr NS : Nat) (mk_named mk_places mk_changes sk_from sk_firstDependency sk_firstChange sk_dependencies sk_hashes sk_byHash sk_leansOn sk_leantBy sk_changes sk_lines sk_patches : Value) (bb gg : Nat → Int32) (a0 fr9 n9x : Nat) (WL : List Int32) (sz : Nat) (hb9 : a0 + WL.length + n9x ≤ 290000) (hNS : NS < 2147483648) (hfn : fr9 + n9x ≤ NS) (hgb : ∀ j, j < NS → by1 (gg j) = gg j) : Met l y_Mk_putBytes ws_Mk_putBytes ({ frames := 1, cells := 0, slots := 0, locals := 60 }) (xw_Pc dC dI [(cI, .int), (cB, .byte), (cL, .long), (cZ, .boolean), (cR, .object "PatchStore$Repository")] [.ref h, .ref sr, .int (nI fr9), .int (nI n9x)] [(h, .inr (5, [.ref sk, mk_named, mk_places, .int (nI (a0 + WL.length)), mk_changes])), (sk, .inr (9, [.ref b_y, sk_from, sk_firstDependency, sk_firstChange, sk_dependencies, sk_hashes, sk_byHash, sk_leansOn, sk_leantBy, sk_changes, sk_lines, sk_patches])), (b_y, .inl (cB, 290000, .inl (wrL bb a0 WL))), (sr, .inl (cB, NS, .inl gg))] sz) (va_Qv (fun _ : Unit => True) (fun _ t => xw_B dC dI [(cI, .int), (cB, .byte), (cL, .long), (cZ, .boolean), (cR, .object "PatchStore$Repository")] (va_A [(h, .inr (5, [.ref sk, mk_named, mk_places, .int (nI (a0 + WL.length)), mk_changes])), (sk, .inr (9, [.ref b_y, sk_from, sk_firstDependency, sk_firstChange, sk_dependencies, sk_hashes, sk_byHash, sk_leansOn, sk_leantBy, sk_changes, sk_lines, sk_patches])), (b_y, .inl (cB, 290000, .inl (wrL bb a0 WL))), (sr, .inl (cB, NS, .inl gg))] sz) [(h, .inr (5, [.ref sk, mk_named, mk_places, .int (nI (a0 + (WL ++ byL gg fr9 n9x).length)), mk_changes])), (sk, .inr (9, [.ref b_y, sk_from, sk_firstDependency, sk_firstChange, sk_dependencies, sk_hashes, sk_byHash, sk_leansOn, sk_leantBy, sk_changes, sk_lines, sk_patches])), (b_y, .inl (cB, 290000, .inl (wrL bb a0 (WL ++ byL gg fr9 n9x)))), (sr, .inl (cB, NS, .inl gg))] t) (va_A [(h, .inr (5, [.ref sk, mk_named, mk_places, .int (nI (a0 + WL.length)), mk_changes])), (sk, .inr (9, [.ref b_y, sk_from, sk_firstDependency, sk_firstChange, sk_dependencies, sk_hashes, sk_byHash, sk_leansOn, sk_leantBy, sk_changes, sk_lines, sk_patches])), (b_y, .inl (cB, 290000, .inl (wrL bb a0 WL))), (sr, .inl (cB, NS, .inl gg))] sz)) 0 0 (va_A [(h, .inr (5, [.ref sk, mk_named, mk_places, .int (nI (a0 + WL.length)), mk_changes])), (sk, .inr (9, [.ref b_y, sk_from, sk_firstDependency, sk_firstChange, sk_dependencies, sk_hashes, sk_byHash, sk_leansOn, sk_leantBy, sk_changes, sk_lines, sk_patches])), (b_y, .inl (cB, 290000, .inl (wrL bb a0 WL))), (sr, .inl (cB, NS, .inl gg))] sz) := by
  refine Met.ofW (cc := prog_6_method_15_code) (maxL := 5) (ret := none) (by decide) rfl ?_
  intro p e s m args below meth c s₁ B hml hv
  obtain ⟨rfl, hsz, hP, hK, hD0⟩ := hv
  have hx := B.exec
  have hb := B.bytes
  have hr := B.returns
  have hts0 := atoms_spec (ws := ws_Mk_putBytes) B.pre
  have hts : ∀ w ∈ xg_1, w.before _ s = true := fun w h => hts0 w (List.mem_cons_of_mem _ h)
  have hown : s.vm.findClass "PatchStore$Maker" = some m.cls := findClass_of_methodNamed B.named
  have hlocks := B.notSynchronized
  subst hsz
  have hD := hD0.self (sz := s.heap.size)
  generalize hAe : va_A [(h, .inr (5, [.ref sk, mk_named, mk_places, .int (nI (a0 + WL.length)), mk_changes])), (sk, .inr (9, [.ref b_y, sk_from, sk_firstDependency, sk_firstChange, sk_dependencies, sk_hashes, sk_byHash, sk_leansOn, sk_leantBy, sk_changes, sk_lines, sk_patches])), (b_y, .inl (cB, 290000, .inl (wrL bb a0 WL))), (sr, .inl (cB, NS, .inl gg))] s.heap.size = A at hD ⊢
  have hA : ∀ q : Nat, s.heap.size ≤ q → A q := fun q h => by rw [← hAe]; exact Or.inr h
  have hS : va_S A s.heap s.heap [] := va_S.rf
  have hl := lv_entry ([.ref h, .ref sr, .int (nI fr9), .int (nI n9x)]) (n := 5) (Nat.le_of_ble_eq_true rfl)
  rw [lg_entry_eq]
  generalize (lg_sl ([.ref h, .ref sr, .int (nI fr9), .int (nI n9x)]) ++ List.replicate (5 - (lg_sl ([.ref h, .ref sr, .int (nI fr9), .int (nI n9x)])).length) Slot.unset).toArray = ls at hl ⊢
  have hl : lv_has ls 5 [(0, .ref h), (1, .ref sr), (2, .int (nI fr9)), (3, .int (nI n9x))] := hl
  generalize hQe : MQ _ _ _ _ _ _ _ = Q
  refine lv_iconst (v := 0) hx hb d_Mk_putBytes_0 (by decide) ?_
  refine lv_istore (lv' := [(4, .int 0), (0, .ref h), (1, .ref sr), (2, .int (nI fr9)), (3, .int (nI n9x))]) hx hb d_Mk_putBytes_1 hl (by decide) rfl (fun ls hl => ?_)
  have e0 : wrL bb a0 WL = wrL bb a0 (WL ++ byL gg fr9 0) := by rw [show byL gg fr9 0 = [] from rfl, List.append_nil]
  have e1 : nI (a0 + WL.length) = nI (a0 + (WL ++ byL gg fr9 0).length) := by rw [show byL gg fr9 0 = [] from rfl, List.append_nil]
  rw [e0, e1] at hP hD
  have loop_3 : ∀ (n9 : Nat) (i : Nat) (H : Heap) (locs : List Loc) (ls : Array Slot), n9x - i < n9 → (i ≤ n9x) → va_P (dC, dI) classes [(h, .inr (5, [.ref sk, mk_named, mk_places, .int (nI (a0 + (WL ++ byL gg fr9 i).length)), mk_changes])), (sk, .inr (9, [.ref b_y, sk_from, sk_firstDependency, sk_firstChange, sk_dependencies, sk_hashes, sk_byHash, sk_leansOn, sk_leantBy, sk_changes, sk_lines, sk_patches])), (b_y, .inl (cB, 290000, .inl (wrL bb a0 (WL ++ byL gg fr9 i)))), (sr, .inl (cB, NS, .inl gg))] H → va_D A [(h, .inr (5, [.ref sk, mk_named, mk_places, .int (nI (a0 + (WL ++ byL gg fr9 i).length)), mk_changes])), (sk, .inr (9, [.ref b_y, sk_from, sk_firstDependency, sk_firstChange, sk_dependencies, sk_hashes, sk_byHash, sk_leansOn, sk_leantBy, sk_changes, sk_lines, sk_patches])), (b_y, .inl (cB, 290000, .inl (wrL bb a0 (WL ++ byL gg fr9 i)))), (sr, .inl (cB, NS, .inl gg))] → va_S A s.heap H locs → lv_has ls 5 [(0, .ref h), (1, .ref sr), (2, .int (nI fr9)), (3, .int (nI n9x)), (4, .int (nI i))] → W p l e (headSpec ws_Mk_putBytes ({ frames := 1, cells := 0, slots := 0, locals := 60 })).room s m ([.ref h, .ref sr, .int (nI fr9), .int (nI n9x)] : List Value).toArray below meth c H locs 0 0 Q (F0 m 3 ls []) := by
    intro n9
    induction n9 with
    | zero => intro i H locs ls hm; exact absurd hm (Nat.not_lt_zero _)
    | succ n9 ih_3 =>
      intro i H locs ls hm hi hP hD hS hl
      have hlen : (WL ++ byL gg fr9 i).length = WL.length + i := by rw [List.length_append, byL_len]
      refine lv_iload hx hb d_Mk_putBytes_3 (lv_at hl 4 rfl) ?_
      refine lv_iload_n hx hb d_Mk_putBytes_5 rfl (lv_at hl 3 rfl) ?_
      refine lv_icmp_ge (tgt := 25) hx hb d_Mk_putBytes_6 (by decide) (fun c_6 => ?_) (fun c_6 => ?_)
      · have n_6 : n9x ≤ i := (nI_leI (a := n9x) (b := i) (by omega) (by omega)).mp c_6
        rw [show i = n9x by omega] at hP hD
        rw [← hQe]
        exact W.vret hx hb hr (fun t ht hW => ⟨⟨(), rfl, trivial, by rw [ht]; exact hP, va_K.moved hW.alike hK, hD⟩, hS.F ht⟩) hS.2.2 d_Mk_putBytes_25
      · have n_6 : i < n9x := Nat.lt_of_not_le (fun z => c_6 ((nI_leI (a := n9x) (b := i) (by omega) (by omega)).mpr z))
        refine lv_aload_n hx hb d_Mk_putBytes_9 rfl (lv_at hl 0 rfl) ?_
        refine lv_aload_n hx hb d_Mk_putBytes_10 rfl (lv_at hl 1 rfl) ?_
        refine lv_iload_n hx hb d_Mk_putBytes_11 rfl (lv_at hl 2 rfl) ?_
        refine lv_iload hx hb d_Mk_putBytes_12 (lv_at hl 4 rfl) ?_
        refine lv_iadd hx hb d_Mk_putBytes_14 ?_
        refine lv_topi (fun x_1 ex_1 => ?_)
        obtain rfl : x_1 = nI (fr9 + i) := by rw [ex_1]; first | done | (exact nI_add _ _)
        refine va_bald hx hb hK hP 3 1 rfl rfl (vp_in_nI (by omega) (by omega)) d_Mk_putBytes_15 ?_
        rw [show (nI (fr9 + i)).toNatClampNeg = (fr9 + i) from nI_clamp (by omega)]
        have hPc := hP.sub (ws' := [(h, .inr (5, [.ref sk, mk_named, mk_places, .int (nI (a0 + (WL ++ byL gg fr9 i).length)), mk_changes])), (sk, .inr (9, [.ref b_y, sk_from, sk_firstDependency, sk_firstChange, sk_dependencies, sk_hashes, sk_byHash, sk_leansOn, sk_leantBy, sk_changes, sk_lines, sk_patches])), (b_y, .inl (cB, 290000, .inl (wrL bb a0 (WL ++ byL gg fr9 i))))]) [0, 1, 2] rfl
        have hDc := hD.sub (ws' := [(h, .inr (5, [.ref sk, mk_named, mk_places, .int (nI (a0 + (WL ++ byL gg fr9 i).length)), mk_changes])), (sk, .inr (9, [.ref b_y, sk_from, sk_firstDependency, sk_firstChange, sk_dependencies, sk_hashes, sk_byHash, sk_leansOn, sk_leantBy, sk_changes, sk_lines, sk_patches])), (b_y, .inl (cB, 290000, .inl (wrL bb a0 (WL ++ byL gg fr9 i))))]) [0, 1, 2] (by decide) rfl
        have hFc := va_free (wc := [(h, .inr (5, [.ref sk, mk_named, mk_places, .int (nI (a0 + (WL ++ byL gg fr9 i).length)), mk_changes])), (sk, .inr (9, [.ref b_y, sk_from, sk_firstDependency, sk_firstChange, sk_dependencies, sk_hashes, sk_byHash, sk_leansOn, sk_leantBy, sk_changes, sk_lines, sk_patches])), (b_y, .inl (cB, 290000, .inl (wrL bb a0 (WL ++ byL gg fr9 i))))]) hD hS hA [0, 1, 2] rfl
        refine va_callv (va_runV (As := [.int (gg (fr9 + i))]) (rest := []) ⟨hx, hb, hml, hown, hts⟩ (m_Mk_put l dC dI cI cB cL cZ cR h sk b_y (mk_named) (mk_places) (mk_changes) (sk_from) (sk_firstDependency) (sk_firstChange) (sk_dependencies) (sk_hashes) (sk_byHash) (sk_leansOn) (sk_leantBy) (sk_changes) (sk_lines) (sk_patches) bb a0 (WL ++ byL gg fr9 i) (gg (fr9 + i)) H.size (by omega)) (cwV 1 hts (xg_V gw_750 gw_752 (xg_p 4 (q := (⟨"PatchStore$Maker", "put", "(I)V"⟩, 5)) (by decide +kernel)) gw_10 gw_753) rfl rfl rfl (by decide +kernel) ⟨Nat.le_of_ble_eq_true rfl, Nat.le_of_ble_eq_true rfl⟩) ⟨xw_blind, va_recv hK hPc (ci := 5) (q0 := 0) rfl rfl, fun U hU hW => ⟨rfl, by rw [hU], by rw [hU]; exact hPc, va_K.moved hW.alike hK, hDc.weaken (fun _ _ _ _ => trivial)⟩⟩ rfl rfl hl.1 rfl (lv_room (Nat.le_of_ble_eq_true rfl)) d_Mk_putBytes_16 ⟨Nat.le_of_ble_eq_true rfl, Nat.le_of_ble_eq_true rfl⟩) hS (fun q _ h => hFc q h) hFc (fun u9 t H1 locs ht hvm hw hB hz1 hk1 hS => ?_)
        obtain ⟨hP1, hK1, hD1⟩ := hB
        rw [ht] at hP1
        obtain ⟨hP, hD⟩ := va_join (wr := [(sr, .inl (cB, NS, .inl gg))]) (w1 := [(h, .inr (5, [.ref sk, mk_named, mk_places, .int (nI (a0 + ((WL ++ byL gg fr9 i) ++ [by1 (gg (fr9 + i))]).length)), mk_changes])), (sk, .inr (9, [.ref b_y, sk_from, sk_firstDependency, sk_firstChange, sk_dependencies, sk_hashes, sk_byHash, sk_leansOn, sk_leantBy, sk_changes, sk_lines, sk_patches])), (b_y, .inl (cB, 290000, .inl (wrL bb a0 ((WL ++ byL gg fr9 i) ++ [by1 (gg (fr9 + i))]))))]) hP hD [0, 1, 2] [3] rfl rfl (by decide) (by decide) hk1 hFc hP1 hD1
        generalize H1 = H at hP hS ⊢
        have hP : va_P (dC, dI) classes [(sr, .inl (cB, NS, .inl gg)), (h, .inr (5, [.ref sk, mk_named, mk_places, .int (nI (a0 + ((WL ++ byL gg fr9 i) ++ [by1 (gg (fr9 + i))]).length)), mk_changes])), (sk, .inr (9, [.ref b_y, sk_from, sk_firstDependency, sk_firstChange, sk_dependencies, sk_hashes, sk_byHash, sk_leansOn, sk_leantBy, sk_changes, sk_lines, sk_patches])), (b_y, .inl (cB, 290000, .inl (wrL bb a0 ((WL ++ byL gg fr9 i) ++ [by1 (gg (fr9 + i))]))))] H := hP
        have hD : va_D A [(sr, .inl (cB, NS, .inl gg)), (h, .inr (5, [.ref sk, mk_named, mk_places, .int (nI (a0 + ((WL ++ byL gg fr9 i) ++ [by1 (gg (fr9 + i))]).length)), mk_changes])), (sk, .inr (9, [.ref b_y, sk_from, sk_firstDependency, sk_firstChange, sk_dependencies, sk_hashes, sk_byHash, sk_leansOn, sk_leantBy, sk_changes, sk_lines, sk_patches])), (b_y, .inl (cB, 290000, .inl (wrL bb a0 ((WL ++ byL gg fr9 i) ++ [by1 (gg (fr9 + i))]))))] := hD
        have e2 : ((WL ++ byL gg fr9 i) ++ [by1 (gg (fr9 + i))]) = (WL ++ byL gg fr9 (i + 1)) := by rw [show by1 (gg (fr9 + i)) = gg (fr9 + i) from hgb _ (by omega), List.append_assoc]; rfl
        rw [e2] at hP hD
        refine lv_iinc (v := nI (i + 1)) (lv' := [(4, .int (nI (i + 1))), (0, .ref h), (1, .ref sr), (2, .int (nI fr9)), (3, .int (nI n9x))]) hx hb d_Mk_putBytes_19 hl (k := 4) rfl (by exact nI_add _ _) (by decide) rfl (fun ls hl => ?_)
        refine lv_goto (tgt := 3) hx hb d_Mk_putBytes_22 (by decide) ?_
        exact ih_3 (i + 1) _ _ _ (by omega) (by omega) (hP.sub [1, 2, 3, 0] rfl) (hD.sub [1, 2, 3, 0] (by decide) rfl) hS (lv_sub hl [1, 2, 3, 4, 0] rfl)
  exact loop_3 _ 0 _ _ _ (Nat.lt_succ_self _) (Nat.zero_le _) hP hD hS (lv_sub hl [1, 2, 3, 4, 0] rfl)
end
