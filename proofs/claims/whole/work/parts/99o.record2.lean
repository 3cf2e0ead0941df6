section
/-! 99o.record2.lean.txt -/
theorem gw_377 : (Jvm.Cond.fieldLink "PatchStore$Recording" (60 : Nat) "PatchStore$Text" "length" "I") ∈ xg_1 := xg_s2 137 rfl rfl
theorem gw_1133 : (Jvm.Cond.methodLink "PatchStore$Recording" (68 : Nat) ({ cls := "PatchStore$Recording", name := "sortLines", desc := "()V" } : Jvm.MethodName)) ∈ xg_1 := xg_s5 173 rfl rfl
theorem gw_1135 : (Jvm.Cond.instanceMethod ({ cls := "PatchStore$Recording", name := "sortLines", desc := "()V" } : Jvm.MethodName)) ∈ xg_1 := xg_s5 175 rfl rfl
theorem gw_1136 : (Jvm.Cond.code ({ cls := "PatchStore$Recording", name := "sortLines", desc := "()V" } : Jvm.MethodName) prog_7_method_7_code (3 : Nat) (Option.none : Option Jvm.ClassFile.FieldType)) ∈ xg_1 := xg_s5 176 rfl rfl
theorem gw_1157 : (Jvm.Cond.methodLink "PatchStore$Recording" (71 : Nat) ({ cls := "PatchStore$Recording", name := "measureCommon", desc := "()V" } : Jvm.MethodName)) ∈ xg_1 := xg_s5 197 rfl rfl
theorem gw_1159 : (Jvm.Cond.instanceMethod ({ cls := "PatchStore$Recording", name := "measureCommon", desc := "()V" } : Jvm.MethodName)) ∈ xg_1 := xg_s5 199 rfl rfl
theorem gw_1160 : (Jvm.Cond.code ({ cls := "PatchStore$Recording", name := "measureCommon", desc := "()V" } : Jvm.MethodName) prog_7_method_10_code (4 : Nat) (Option.none : Option Jvm.ClassFile.FieldType)) ∈ xg_1 := xg_s5 200 rfl rfl
theorem gw_1164 : (Jvm.Cond.methodLink "PatchStore$Recording" (74 : Nat) ({ cls := "PatchStore$Recording", name := "walk", desc := "()V" } : Jvm.MethodName)) ∈ xg_1 := xg_s5 204 rfl rfl
theorem gw_1166 : (Jvm.Cond.instanceMethod ({ cls := "PatchStore$Recording", name := "walk", desc := "()V" } : Jvm.MethodName)) ∈ xg_1 := xg_s5 206 rfl rfl
theorem gw_1167 : (Jvm.Cond.code ({ cls := "PatchStore$Recording", name := "walk", desc := "()V" } : Jvm.MethodName) prog_7_method_11_code (6 : Nat) (Option.none : Option Jvm.ClassFile.FieldType)) ∈ xg_1 := xg_s5 207 rfl rfl
theorem gw_1168 : (Jvm.Cond.methodLink "PatchStore$Recording" (77 : Nat) ({ cls := "PatchStore$Maker", name := "begin", desc := "()V" } : Jvm.MethodName)) ∈ xg_1 := xg_s5 208 rfl rfl
theorem gw_1169 : (Jvm.Cond.methodLink "PatchStore$Recording" (82 : Nat) ({ cls := "PatchStore$Recording", name := "writeChanges", desc := "()V" } : Jvm.MethodName)) ∈ xg_1 := xg_s5 209 rfl rfl
theorem gw_1171 : (Jvm.Cond.instanceMethod ({ cls := "PatchStore$Recording", name := "writeChanges", desc := "()V" } : Jvm.MethodName)) ∈ xg_1 := xg_s5 211 rfl rfl
theorem gw_1172 : (Jvm.Cond.code ({ cls := "PatchStore$Recording", name := "writeChanges", desc := "()V" } : Jvm.MethodName) prog_7_method_12_code (4 : Nat) (Option.none : Option Jvm.ClassFile.FieldType)) ∈ xg_1 := xg_s5 212 rfl rfl
theorem gw_1194 : (Jvm.Cond.methodLink "PatchStore$Recording" (85 : Nat) ({ cls := "PatchStore$Maker", name := "isWithoutChanges", desc := "()Z" } : Jvm.MethodName)) ∈ xg_1 := xg_s5 234 rfl rfl
theorem gw_1195 : (Jvm.Cond.instanceMethod ({ cls := "PatchStore$Maker", name := "isWithoutChanges", desc := "()Z" } : Jvm.MethodName)) ∈ xg_1 := xg_s5 235 rfl rfl
theorem gw_1196 : (Jvm.Cond.selects "PatchStore$Maker" ({ cls := "PatchStore$Maker", name := "isWithoutChanges", desc := "()Z" } : Jvm.MethodName) ({ cls := "PatchStore$Maker", name := "isWithoutChanges", desc := "()Z" } : Jvm.MethodName)) ∈ xg_1 := xg_s5 236 rfl rfl
theorem gw_1197 : (Jvm.Cond.code ({ cls := "PatchStore$Maker", name := "isWithoutChanges", desc := "()Z" } : Jvm.MethodName) prog_6_method_6_code (1 : Nat) (Option.some Jvm.ClassFile.FieldType.boolean)) ∈ xg_1 := xg_s5 237 rfl rfl
theorem gw_1198 : (Jvm.Cond.methodLink "PatchStore$Recording" (89 : Nat) ({ cls := "PatchStore$Maker", name := "putHead", desc := "()V" } : Jvm.MethodName)) ∈ xg_1 := xg_s5 238 rfl rfl
theorem gw_1199 : (Jvm.Cond.methodLink "PatchStore$Recording" (92 : Nat) ({ cls := "PatchStore$Maker", name := "finish", desc := "()V" } : Jvm.MethodName)) ∈ xg_1 := xg_s5 239 rfl rfl
def y_Rc_makeRecord : MethodName := ⟨"PatchStore$Recording", "makeRecord", "(I)Z"⟩
abbrev c_Rc_makeRecord : Cond := (Jvm.Cond.code ({ cls := "PatchStore$Recording", name := "makeRecord", desc := "(I)Z" } : Jvm.MethodName) prog_7_method_3_code (2 : Nat) (Option.some Jvm.ClassFile.FieldType.boolean))
abbrev ws_Rc_makeRecord : List Cond := c_Rc_makeRecord :: xg_1
theorem d_Rc_makeRecord_0 : decode prog_7_method_3_code 0 = .ok (.aload_n 0, 1) := by decide +kernel
theorem d_Rc_makeRecord_1 : decode prog_7_method_3_code 1 = .ok (.iload_n 1, 1) := by decide +kernel
theorem d_Rc_makeRecord_2 : decode prog_7_method_3_code 2 = .ok (.putfield 57, 3) := by decide +kernel
theorem d_Rc_makeRecord_5 : decode prog_7_method_3_code 5 = .ok (.aload_n 0, 1) := by decide +kernel
theorem d_Rc_makeRecord_6 : decode prog_7_method_3_code 6 = .ok (.aload_n 0, 1) := by decide +kernel
theorem d_Rc_makeRecord_7 : decode prog_7_method_3_code 7 = .ok (.getfield 41, 3) := by decide +kernel
theorem d_Rc_makeRecord_10 : decode prog_7_method_3_code 10 = .ok (.getfield 60, 3) := by decide +kernel
theorem d_Rc_makeRecord_13 : decode prog_7_method_3_code 13 = .ok (.putfield 65, 3) := by decide +kernel
theorem d_Rc_makeRecord_16 : decode prog_7_method_3_code 16 = .ok (.aload_n 0, 1) := by decide +kernel
theorem d_Rc_makeRecord_17 : decode prog_7_method_3_code 17 = .ok (.invokevirtual 68, 3) := by decide +kernel
theorem d_Rc_makeRecord_20 : decode prog_7_method_3_code 20 = .ok (.aload_n 0, 1) := by decide +kernel
theorem d_Rc_makeRecord_21 : decode prog_7_method_3_code 21 = .ok (.invokevirtual 71, 3) := by decide +kernel
theorem d_Rc_makeRecord_24 : decode prog_7_method_3_code 24 = .ok (.aload_n 0, 1) := by decide +kernel
theorem d_Rc_makeRecord_25 : decode prog_7_method_3_code 25 = .ok (.invokevirtual 74, 3) := by decide +kernel
theorem d_Rc_makeRecord_28 : decode prog_7_method_3_code 28 = .ok (.aload_n 0, 1) := by decide +kernel
theorem d_Rc_makeRecord_29 : decode prog_7_method_3_code 29 = .ok (.getfield 45, 3) := by decide +kernel
theorem d_Rc_makeRecord_32 : decode prog_7_method_3_code 32 = .ok (.invokevirtual 77, 3) := by decide +kernel
theorem d_Rc_makeRecord_35 : decode prog_7_method_3_code 35 = .ok (.aload_n 0, 1) := by decide +kernel
theorem d_Rc_makeRecord_36 : decode prog_7_method_3_code 36 = .ok (.invokevirtual 82, 3) := by decide +kernel
theorem d_Rc_makeRecord_39 : decode prog_7_method_3_code 39 = .ok (.aload_n 0, 1) := by decide +kernel
theorem d_Rc_makeRecord_40 : decode prog_7_method_3_code 40 = .ok (.getfield 45, 3) := by decide +kernel
theorem d_Rc_makeRecord_43 : decode prog_7_method_3_code 43 = .ok (.invokevirtual 85, 3) := by decide +kernel
theorem d_Rc_makeRecord_46 : decode prog_7_method_3_code 46 = .ok (.ifCond .eq 5, 3) := by decide +kernel
theorem d_Rc_makeRecord_49 : decode prog_7_method_3_code 49 = .ok (.iconst 0, 1) := by decide +kernel
theorem d_Rc_makeRecord_50 : decode prog_7_method_3_code 50 = .ok (.ireturn, 1) := by decide +kernel
theorem d_Rc_makeRecord_51 : decode prog_7_method_3_code 51 = .ok (.aload_n 0, 1) := by decide +kernel
theorem d_Rc_makeRecord_52 : decode prog_7_method_3_code 52 = .ok (.getfield 45, 3) := by decide +kernel
theorem d_Rc_makeRecord_55 : decode prog_7_method_3_code 55 = .ok (.invokevirtual 89, 3) := by decide +kernel
theorem d_Rc_makeRecord_58 : decode prog_7_method_3_code 58 = .ok (.aload_n 0, 1) := by decide +kernel
theorem d_Rc_makeRecord_59 : decode prog_7_method_3_code 59 = .ok (.invokevirtual 82, 3) := by decide +kernel
theorem d_Rc_makeRecord_62 : decode prog_7_method_3_code 62 = .ok (.aload_n 0, 1) := by decide +kernel
theorem d_Rc_makeRecord_63 : decode prog_7_method_3_code 63 = .ok (.getfield 45, 3) := by decide +kernel
theorem d_Rc_makeRecord_66 : decode prog_7_method_3_code 66 = .ok (.invokevirtual 92, 3) := by decide +kernel
theorem d_Rc_makeRecord_69 : decode prog_7_method_3_code 69 = .ok (.iconst 1, 1) := by decide +kernel
theorem d_Rc_makeRecord_70 : decode prog_7_method_3_code 70 = .ok (.ireturn, 1) := by decide +kernel
theorem wk_inc (E : Nat → Nat → Bool) (no nt : Nat) : ∀ k g, g + 1 < (wkK E no nt k).length → ((wkK E no nt k).getD g (0, 0)).2 < ((wkK E no nt k).getD (g + 1) (0, 0)).2
  | 0, g, h => absurd h (Nat.not_lt_zero _)
  | k + 1, g, h => by
    have ih := wk_inc E no nt k g
    have v6 := (wkV_all E no nt k).2.2.2.2.2.1
    rcases wk_cases E no nt k with ⟨h1, h2, e1, e2, e3, e4⟩ | ⟨h1, e1, e2, e3, e4⟩ | ⟨h1, e1, e2, e3, e4⟩ | ⟨h1, h2, e1, e2, e3, e4⟩
    · rw [e3] at h ⊢
      rw [List.length_append] at h
      have h : g + 1 < (wkK E no nt k).length + 1 := h
      rw [List.getD_eq_getElem?_getD, List.getD_eq_getElem?_getD, List.getElem?_append_left (by omega)]
      by_cases e : g + 1 = (wkK E no nt k).length
      · rw [List.getElem?_append_right (by omega), e, Nat.sub_self]
        have hg : g < (wkK E no nt k).length := by omega
        rw [List.getElem?_eq_getElem hg]
        exact (v6 _ (List.getElem_mem hg)).2
      · rw [List.getElem?_append_left (by omega), ← List.getD_eq_getElem?_getD, ← List.getD_eq_getElem?_getD]
        exact ih (by omega)
    · rw [e3] at h ⊢; exact ih h
    · rw [e3] at h ⊢; exact ih h
    · rw [e3] at h ⊢; exact ih h
theorem getD_map2 (L : List (Nat × Nat)) (g : Nat) : (L.map (fun x => x.2)).getD g 0 = (L.getD g (0, 0)).2 := by
  rw [List.getD_eq_getElem?_getD, List.getD_eq_getElem?_getD, List.getElem?_map]
  cases L[g]? with
  | none => rfl
  | some x => rfl
theorem wk_gpO (E : Nat → Nat → Bool) (no nt : Nat) : gpO ((wkK E no nt (no + nt)).map (fun x => x.2)) nt := by
  have v := wkV_all E no nt (no + nt)
  constructor
  · intro g hg
    rw [List.length_map] at hg
    rw [getD_map2, List.getD_eq_getElem?_getD, List.getElem?_eq_getElem hg]
    have := (v.2.2.2.2.2.1 _ (List.getElem_mem hg)).2
    have := v.2.1
    exact Nat.lt_of_lt_of_le (by assumption) (by assumption)
  · intro g hg
    rw [List.length_map] at hg
    rw [getD_map2, getD_map2]
    exact wk_inc E no nt (no + nt) g hg
theorem map_mem1 {K : List (Nat × Nat)} {OX : Nat → Nat} {P : Nat → Prop} (h : ∀ x, x ∈ K → P (OX x.1)) : ∀ y, y ∈ K.map (fun x => OX x.1) → P y := by
  intro y hy
  obtain ⟨x, hx, e⟩ := List.mem_map.mp hy
  rw [← e]; exact h x hx
theorem map_mem2 {D : List Nat} {OX : Nat → Nat} {P : Nat → Prop} (h : ∀ x, x ∈ D → P (OX x)) : ∀ y, y ∈ D.map OX → P y := by
  intro y hy
  obtain ⟨x, hx, e⟩ := List.mem_map.mp hy
  rw [← e]; exact h x hx
theorem chM_lt {PC : Nat → Nat} {nm : Nat → Int32} {n : Nat} (h : ∀ q, q < n → nm q = 0 ∨ nm q = 1) (C : List (List (List Int32 ⊕ Nat))) : ∀ q, q < n → chM PC nm C q = 0 ∨ chM PC nm C q = 1 := nms_lt h _
theorem rcC_len (S : Stk) (pl : Nat → Int32) (PC LC : Nat → Nat) (tf : Nat → Int32) (NA NL : Nat → Nat) (ac : Nat) (bf : Nat → Nat → Bool) (DX KX KN : List Nat) (nt : Nat) (h : ∀ j, j < nt → NA (j + 1) = NA j + NL j) (ho : gpO KN nt) (hk : KN.length = KX.length) : (chL S pl PC (rcC S LC tf NA NL ac bf DX KX KN nt)).length ≤ 7 * DX.length + 21 * (KX.length + 1) + 13 * KX.length + 2 * nt + NA nt ∧ (rcC S LC tf NA NL ac bf DX KX KN nt).length ≤ DX.length + 2 * KX.length + 1 := by
  have h1 := inC_end (S := S) (pl := pl) (PC := PC) (LC := LC) (tf := tf) (ac := ac) (KX := KX) h ho
  have h2 := odC_len S pl PC LC bf KX KN (KX.length - 1)
  have h3 := inC_num S LC tf NA NL ac KX KN nt (KX.length + 1)
  rw [hk] at h1
  unfold rcC
  rw [chL_app, chL_app, List.length_append, List.length_append, List.length_append, List.length_append, dlC_len, dlC_num]
  omega
end
section
/-! 99p.grids.lean.txt -/
/-- rows of arrays, the i-th at the address ad i -/
def gd (c : ClassId) (M : Nat) (ad : Nat → Nat) (R : Nat → Nat → Int32) (n : Nat) : va_W := (List.range n).map (fun i => (ad i, .inl (c, M, .inl (R i))))
theorem gd_len (c : ClassId) (M : Nat) (ad : Nat → Nat) (R : Nat → Nat → Int32) (n : Nat) : (gd c M ad R n).length = n := by
  unfold gd
  rw [List.length_map, List.length_range]
theorem gd_at {c : ClassId} {M : Nat} {ad : Nat → Nat} {R : Nat → Nat → Int32} {n i : Nat} (h : i < n) : (gd c M ad R n)[i]? = some (ad i, .inl (c, M, .inl (R i))) := by
  unfold gd
  rw [List.getElem?_map, List.getElem?_range h]
  rfl
theorem gd_set {c : ClassId} {M : Nat} {ad : Nat → Nat} {R : Nat → Nat → Int32} {n i : Nat} {r : Nat → Int32} (h : i < n) : (gd c M ad R n).set i (ad i, .inl (c, M, .inl r)) = gd c M ad (va_up R i r) n := by
  apply List.ext_getElem?
  intro j
  by_cases hj : j < n
  · rw [gd_at hj]
    by_cases e : j = i
    · subst e
      rw [List.getElem?_set_self (by rw [gd_len]; exact h), va_up_self]
    · rw [List.getElem?_set_ne (Ne.symm e), gd_at hj, va_up_ne _ _ e]
  · rw [List.getElem?_eq_none (by rw [List.length_set, gd_len]; omega), List.getElem?_eq_none (by rw [gd_len]; omega)]
theorem gd_push {c : ClassId} {M : Nat} {ad : Nat → Nat} {R : Nat → Nat → Int32} {n q : Nat} {r : Nat → Int32} : gd c M ad R n ++ [(q, .inl (c, M, .inl r))] = gd c M (va_up ad n q) (va_up R n r) (n + 1) := by
  unfold gd
  rw [List.range_succ, List.map_append]
  congr 1
  · apply List.map_congr_left
    intro j hj
    have hj : j ≠ n := Nat.ne_of_lt (List.mem_range.mp hj)
    rw [va_up_ne _ _ hj, va_up_ne _ _ hj]
  · simp only [List.map_cons, List.map_nil, va_up_self]
/-- the reference's arrays of arrays: addresses of the rows of edge, way, common, hashes; what they hold; how many hashes -/
def Gr : Type := (Nat → Nat) × (Nat → Nat) × (Nat → Nat) × (Nat → Nat) × (Nat → Nat → Int32) × (Nat → Nat → Int32) × (Nat → Nat → Int32) × (Nat → Nat → Int32) × Nat
def Gr.mk (ae aw ac ah : Nat → Nat) (E W C H : Nat → Nat → Int32) (n : Nat) : Gr := (ae, aw, ac, ah, E, W, C, H, n)
def Gr.ae (g : Gr) : Nat → Nat := g.1
def Gr.aw (g : Gr) : Nat → Nat := g.2.1
def Gr.ac (g : Gr) : Nat → Nat := g.2.2.1
def Gr.ah (g : Gr) : Nat → Nat := g.2.2.2.1
def Gr.E (g : Gr) : Nat → Nat → Int32 := g.2.2.2.2.1
def Gr.W (g : Gr) : Nat → Nat → Int32 := g.2.2.2.2.2.1
def Gr.C (g : Gr) : Nat → Nat → Int32 := g.2.2.2.2.2.2.1
def Gr.H (g : Gr) : Nat → Nat → Int32 := g.2.2.2.2.2.2.2.1
def Gr.n (g : Gr) : Nat := g.2.2.2.2.2.2.2.2
def Gr.sE (g : Gr) (i : Nat) (r : Nat → Int32) : Gr := Gr.mk g.ae g.aw g.ac g.ah (va_up g.E i r) g.W g.C g.H g.n
def Gr.sW (g : Gr) (i : Nat) (r : Nat → Int32) : Gr := Gr.mk g.ae g.aw g.ac g.ah g.E (va_up g.W i r) g.C g.H g.n
def Gr.sC (g : Gr) (i : Nat) (r : Nat → Int32) : Gr := Gr.mk g.ae g.aw g.ac g.ah g.E g.W (va_up g.C i r) g.H g.n
def Gr.sH (g : Gr) (i : Nat) (r : Nat → Int32) : Gr := Gr.mk g.ae g.aw g.ac g.ah g.E g.W g.C (va_up g.H i r) g.n
def Gr.pH (g : Gr) (q : Nat) (r : Nat → Int32) : Gr := Gr.mk g.ae g.aw g.ac (va_up g.ah g.n q) g.E g.W g.C (va_up g.H g.n r) (g.n + 1)
/-- all of them, as a part of a world -/
def gdA (cI cB cZ : ClassId) (g : Gr) : va_W := gd cZ 400 g.ae g.E 400 ++ (gd cZ 400 g.aw g.W 400 ++ (gd cI 202 g.ac g.C 202 ++ gd cB 32 g.ah g.H g.n))
section GDA
variable {cI cB cZ : ClassId} {g : Gr} {X : va_W} {n i : Nat} {r : Nat → Int32}
theorem gA_E (hn : X.length = n) (hi : i < 400) : (X ++ gdA cI cB cZ g)[n + i]? = some (g.ae i, .inl (cZ, 400, .inl (g.E i))) := by
  subst hn
  rw [List.getElem?_append_right (by omega), Nat.add_sub_cancel_left]
  unfold gdA
  rw [List.getElem?_append_left (by rw [gd_len]; exact hi), gd_at hi]
theorem gA_W (hn : X.length = n) (hi : i < 400) : (X ++ gdA cI cB cZ g)[n + (400 + i)]? = some (g.aw i, .inl (cZ, 400, .inl (g.W i))) := by
  subst hn
  rw [List.getElem?_append_right (by omega), Nat.add_sub_cancel_left]
  unfold gdA
  rw [List.getElem?_append_right (by rw [gd_len]; omega), gd_len, Nat.add_sub_cancel_left, List.getElem?_append_left (by rw [gd_len]; exact hi), gd_at hi]
theorem gA_C (hn : X.length = n) (hi : i < 202) : (X ++ gdA cI cB cZ g)[n + (800 + i)]? = some (g.ac i, .inl (cI, 202, .inl (g.C i))) := by
  subst hn
  rw [List.getElem?_append_right (by omega), Nat.add_sub_cancel_left]
  unfold gdA
  rw [List.getElem?_append_right (by rw [gd_len]; omega), gd_len, List.getElem?_append_right (by rw [gd_len]; omega), gd_len, show 800 + i - 400 - 400 = i by omega, List.getElem?_append_left (by rw [gd_len]; exact hi), gd_at hi]
theorem gA_H (hn : X.length = n) (hi : i < g.n) : (X ++ gdA cI cB cZ g)[n + (1002 + i)]? = some (g.ah i, .inl (cB, 32, .inl (g.H i))) := by
  subst hn
  rw [List.getElem?_append_right (by omega), Nat.add_sub_cancel_left]
  unfold gdA
  rw [List.getElem?_append_right (by rw [gd_len]; omega), gd_len, List.getElem?_append_right (by rw [gd_len]; omega), gd_len, List.getElem?_append_right (by rw [gd_len]; omega), gd_len, show 1002 + i - 400 - 400 - 202 = i by omega, gd_at hi]
theorem gA_sE (hn : X.length = n) (hi : i < 400) : (X ++ gdA cI cB cZ g).set (n + i) (g.ae i, .inl (cZ, 400, .inl r)) = X ++ gdA cI cB cZ (g.sE i r) := by
  subst hn
  rw [List.set_append_right _ _ (by omega), Nat.add_sub_cancel_left]
  congr 1
  unfold gdA
  rw [List.set_append_left _ _ (by rw [gd_len]; exact hi), gd_set hi]
  rfl
theorem gA_sW (hn : X.length = n) (hi : i < 400) : (X ++ gdA cI cB cZ g).set (n + (400 + i)) (g.aw i, .inl (cZ, 400, .inl r)) = X ++ gdA cI cB cZ (g.sW i r) := by
  subst hn
  rw [List.set_append_right _ _ (by omega), Nat.add_sub_cancel_left]
  congr 1
  unfold gdA
  rw [List.set_append_right _ _ (by rw [gd_len]; omega), gd_len, Nat.add_sub_cancel_left, List.set_append_left _ _ (by rw [gd_len]; exact hi), gd_set hi]
  rfl
theorem gA_sC (hn : X.length = n) (hi : i < 202) : (X ++ gdA cI cB cZ g).set (n + (800 + i)) (g.ac i, .inl (cI, 202, .inl r)) = X ++ gdA cI cB cZ (g.sC i r) := by
  subst hn
  rw [List.set_append_right _ _ (by omega), Nat.add_sub_cancel_left]
  congr 1
  unfold gdA
  rw [List.set_append_right _ _ (by rw [gd_len]; omega), gd_len, List.set_append_right _ _ (by rw [gd_len]; omega), gd_len, show 800 + i - 400 - 400 = i by omega, List.set_append_left _ _ (by rw [gd_len]; exact hi), gd_set hi]
  rfl
theorem gA_sH (hn : X.length = n) (hi : i < g.n) : (X ++ gdA cI cB cZ g).set (n + (1002 + i)) (g.ah i, .inl (cB, 32, .inl r)) = X ++ gdA cI cB cZ (g.sH i r) := by
  subst hn
  rw [List.set_append_right _ _ (by omega), Nat.add_sub_cancel_left]
  congr 1
  unfold gdA
  rw [List.set_append_right _ _ (by rw [gd_len]; omega), gd_len, List.set_append_right _ _ (by rw [gd_len]; omega), gd_len, List.set_append_right _ _ (by rw [gd_len]; omega), gd_len, show 1002 + i - 400 - 400 - 202 = i by omega, gd_set hi]
  rfl
theorem gA_pH {q : Nat} : (X ++ gdA cI cB cZ g) ++ [(q, .inl (cB, 32, .inl r))] = X ++ gdA cI cB cZ (g.pH q r) := by
  rw [List.append_assoc]
  refine congrArg (fun z => X ++ z) ?_
  unfold gdA
  rw [List.append_assoc, List.append_assoc, List.append_assoc, gd_push]
  rfl
end GDA
/-- a world without its second part -/
theorem xd_P {D : va_G} {cl : List vw_C} {a b : va_W} {H : Heap} (h : va_P D cl (a ++ b) H) : va_P D cl a H := fun k q hk => h k q (by rw [List.getElem?_append_left (List.getElem?_eq_some_iff.mp hk).1]; exact hk)
theorem xd_D {A : Nat → Prop} {a b : va_W} (h : va_D A (a ++ b)) : va_D A a := by
  have e : ∀ (k : Nat) (q : Nat × va_E), a[k]? = some q → (a ++ b)[k]? = some q := fun k q hk => by rw [List.getElem?_append_left (List.getElem?_eq_some_iff.mp hk).1]; exact hk
  exact ⟨fun i j p q hi hj hpq => h.1 i j p q (e i p hi) (e j q hj) hpq, fun k q hk => h.2 k q (e k q hk)⟩
theorem xd_F {A0 : Nat → Prop} {a b : va_W} {z : Nat} (h : ∀ q, va_A (a ++ b) z q → A0 q) : ∀ q, va_A a z q → A0 q := by
  intro q hq
  rcases hq with ⟨k, e, hk⟩ | hq
  · exact h q (Or.inl ⟨k, e, by rw [List.getElem?_append_left (List.getElem?_eq_some_iff.mp hk).1]; exact hk⟩)
  · exact h q (Or.inr hq)
section XQA
variable {p : Program} {l : Launch} {e : Env} {R : Room} {s : State} {m : MethodId} {args : Array Value} {below : List Frame} {meth : Method} {c : Code} {H : Heap} {locs : List Loc} {cells slots : Nat} {Q : State → Prop}
variable {cc : ByteArray} {pc : Nat} {ls : Array Slot} {rest : List Value} {D : va_G} {cl : List vw_C} {A : Nat → Prop} {a : Nat} {tys : List (ClassId × FieldType)} {ws : va_W} {H0 : Heap}
/-- a row of an array of arrays -/
theorem xq_ald (hexec : p.tables.exec = Jvm.exec) (hb : c.code = cc) (hK : va_K D cl tys s) (hP : va_P D cl ws H) (q0 t0 : Nat) {cA : ClassId} {t : FieldType} {n y : Nat} {f : Nat → Option Nat} (ha : ws[q0]? = some (a, .inl (cA, n, .inr (.inr (.inr (.inr f)))))) (ht : tys[t0]? = some (cA, .array t)) {i : Int32} (hin : vp_in i n) (hy : f i.toNatClampNeg = some y) (hdg : decode cc pc = .ok (.aaload, 1))
    (kk : W p l e R s m args below meth c H locs cells slots Q (F0 m (pc + 1) ls (.ref y :: rest))) : W p l e R s m args below meth c H locs cells slots Q (F0 m pc ls (.int i :: .ref a :: rest)) := by
  have hlt : i.toNatClampNeg < n := Nat.not_le.mp fun q => hin (Or.inr q)
  exact W.aald (v := .ref y) (ty := .array t) hexec hb (hP q0 _ ha) ((hK.2 t0 _ ht).1 n (fun j => va_rf (f j))) rfl (fun q => by cases q) (by show ¬ (i < 0 ∨ (arrV _ _ _).slots.size ≤ _); rw [arrV_size]; exact hin) (by show (arrV _ _ _).slots[_]? = _; rw [arrV_read _ _ hlt, hy]; rfl) rfl rfl hdg kk
end XQA
end
