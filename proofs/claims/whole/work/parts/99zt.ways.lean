/-! 99zt.ways.lean.txt -/
theorem gw_1919 : (Jvm.Cond.methodLink "PatchStoreModel" (400 : Nat) ({ cls := "java/util/Arrays", name := "fill", desc := "([ZIIZ)V" } : Jvm.MethodName)) ∈ xg_1 := xg_s8 239 rfl rfl
theorem gw_1920 : (Jvm.Cond.static ({ cls := "java/util/Arrays", name := "fill", desc := "([ZIIZ)V" } : Jvm.MethodName)) ∈ xg_1 := xg_s9 0 rfl rfl
theorem gw_1921 : (Jvm.Cond.code ({ cls := "java/util/Arrays", name := "fill", desc := "([ZIIZ)V" } : Jvm.MethodName) prog_36_method_112_code (5 : Nat) (Option.none : Option Jvm.ClassFile.FieldType)) ∈ xg_1 := xg_s9 1 rfl rfl
theorem gw_1922 : (Jvm.Cond.methodLink "java/util/Arrays" (13 : Nat) ({ cls := "java/util/Arrays", name := "rangeCheck", desc := "(III)V" } : Jvm.MethodName)) ∈ xg_1 := xg_s9 2 rfl rfl
theorem gw_1923 : (Jvm.Cond.static ({ cls := "java/util/Arrays", name := "rangeCheck", desc := "(III)V" } : Jvm.MethodName)) ∈ xg_1 := xg_s9 3 rfl rfl
theorem gw_1924 : (Jvm.Cond.code ({ cls := "java/util/Arrays", name := "rangeCheck", desc := "(III)V" } : Jvm.MethodName) prog_36_method_30_code (3 : Nat) (Option.none : Option Jvm.ClassFile.FieldType)) ∈ xg_1 := xg_s9 4 rfl rfl
def y_Ar_rangeCheck : MethodName := ⟨"java/util/Arrays", "rangeCheck", "(III)V"⟩
abbrev c_Ar_rangeCheck : Cond := (Jvm.Cond.code ({ cls := "java/util/Arrays", name := "rangeCheck", desc := "(III)V" } : Jvm.MethodName) prog_36_method_30_code (3 : Nat) (Option.none : Option Jvm.ClassFile.FieldType))
abbrev ws_Ar_rangeCheck : List Cond := c_Ar_rangeCheck :: xg_1
theorem d_Ar_rangeCheck_0 : decode prog_36_method_30_code 0 = .ok (.iload_n 1, 1) := by decide +kernel
theorem d_Ar_rangeCheck_1 : decode prog_36_method_30_code 1 = .ok (.iload_n 2, 1) := by decide +kernel
theorem d_Ar_rangeCheck_2 : decode prog_36_method_30_code 2 = .ok (.if_icmp .le 44, 3) := by decide +kernel
theorem d_Ar_rangeCheck_46 : decode prog_36_method_30_code 46 = .ok (.iload_n 1, 1) := by decide +kernel
theorem d_Ar_rangeCheck_47 : decode prog_36_method_30_code 47 = .ok (.ifCond .ge 12, 3) := by decide +kernel
theorem d_Ar_rangeCheck_59 : decode prog_36_method_30_code 59 = .ok (.iload_n 2, 1) := by decide +kernel
theorem d_Ar_rangeCheck_60 : decode prog_36_method_30_code 60 = .ok (.iload_n 0, 1) := by decide +kernel
theorem d_Ar_rangeCheck_61 : decode prog_36_method_30_code 61 = .ok (.if_icmp .le 12, 3) := by decide +kernel
theorem d_Ar_rangeCheck_73 : decode prog_36_method_30_code 73 = .ok (.return_, 1) := by decide +kernel
def y_Ar_fill1 : MethodName := ⟨"java/util/Arrays", "fill", "([ZIIZ)V"⟩
abbrev c_Ar_fill1 : Cond := (Jvm.Cond.code ({ cls := "java/util/Arrays", name := "fill", desc := "([ZIIZ)V" } : Jvm.MethodName) prog_36_method_112_code (5 : Nat) (Option.none : Option Jvm.ClassFile.FieldType))
abbrev ws_Ar_fill1 : List Cond := c_Ar_fill1 :: xg_1
theorem d_Ar_fill1_0 : decode prog_36_method_112_code 0 = .ok (.aload_n 0, 1) := by decide +kernel
theorem d_Ar_fill1_1 : decode prog_36_method_112_code 1 = .ok (.arraylength, 1) := by decide +kernel
theorem d_Ar_fill1_2 : decode prog_36_method_112_code 2 = .ok (.iload_n 1, 1) := by decide +kernel
theorem d_Ar_fill1_3 : decode prog_36_method_112_code 3 = .ok (.iload_n 2, 1) := by decide +kernel
theorem d_Ar_fill1_4 : decode prog_36_method_112_code 4 = .ok (.invokestatic 13, 3) := by decide +kernel
theorem d_Ar_fill1_7 : decode prog_36_method_112_code 7 = .ok (.iload_n 1, 1) := by decide +kernel
theorem d_Ar_fill1_8 : decode prog_36_method_112_code 8 = .ok (.istore 4, 2) := by decide +kernel
theorem d_Ar_fill1_10 : decode prog_36_method_112_code 10 = .ok (.iload 4, 2) := by decide +kernel
theorem d_Ar_fill1_12 : decode prog_36_method_112_code 12 = .ok (.iload_n 2, 1) := by decide +kernel
theorem d_Ar_fill1_13 : decode prog_36_method_112_code 13 = .ok (.if_icmp .ge 14, 3) := by decide +kernel
theorem d_Ar_fill1_16 : decode prog_36_method_112_code 16 = .ok (.aload_n 0, 1) := by decide +kernel
theorem d_Ar_fill1_17 : decode prog_36_method_112_code 17 = .ok (.iload 4, 2) := by decide +kernel
theorem d_Ar_fill1_19 : decode prog_36_method_112_code 19 = .ok (.iload_n 3, 1) := by decide +kernel
theorem d_Ar_fill1_20 : decode prog_36_method_112_code 20 = .ok (.bastore, 1) := by decide +kernel
theorem d_Ar_fill1_21 : decode prog_36_method_112_code 21 = .ok (.iinc 4 1, 3) := by decide +kernel
theorem d_Ar_fill1_24 : decode prog_36_method_112_code 24 = .ok (.goto (-14), 3) := by decide +kernel
theorem d_Ar_fill1_27 : decode prog_36_method_112_code 27 = .ok (.return_, 1) := by decide +kernel
def y_Md_ways : MethodName := ⟨"PatchStoreModel", "ways", "()V"⟩
abbrev c_Md_ways : Cond := (Jvm.Cond.code ({ cls := "PatchStoreModel", name := "ways", desc := "()V" } : Jvm.MethodName) prog_14_method_42_code (6 : Nat) (Option.none : Option Jvm.ClassFile.FieldType))
abbrev ws_Md_ways : List Cond := c_Md_ways :: xg_1
theorem d_Md_ways_0 : decode prog_14_method_42_code 0 = .ok (.iconst 0, 1) := by decide +kernel
theorem d_Md_ways_1 : decode prog_14_method_42_code 1 = .ok (.istore_n 1, 1) := by decide +kernel
theorem d_Md_ways_2 : decode prog_14_method_42_code 2 = .ok (.iload_n 1, 1) := by decide +kernel
theorem d_Md_ways_3 : decode prog_14_method_42_code 3 = .ok (.aload_n 0, 1) := by decide +kernel
theorem d_Md_ways_4 : decode prog_14_method_42_code 4 = .ok (.getfield 211, 3) := by decide +kernel
theorem d_Md_ways_7 : decode prog_14_method_42_code 7 = .ok (.if_icmp .ge 113, 3) := by decide +kernel
theorem d_Md_ways_10 : decode prog_14_method_42_code 10 = .ok (.aload_n 0, 1) := by decide +kernel
theorem d_Md_ways_11 : decode prog_14_method_42_code 11 = .ok (.getfield 208, 3) := by decide +kernel
theorem d_Md_ways_14 : decode prog_14_method_42_code 14 = .ok (.iload_n 1, 1) := by decide +kernel
theorem d_Md_ways_15 : decode prog_14_method_42_code 15 = .ok (.aaload, 1) := by decide +kernel
theorem d_Md_ways_16 : decode prog_14_method_42_code 16 = .ok (.astore_n 2, 1) := by decide +kernel
theorem d_Md_ways_17 : decode prog_14_method_42_code 17 = .ok (.aload_n 2, 1) := by decide +kernel
theorem d_Md_ways_18 : decode prog_14_method_42_code 18 = .ok (.iconst 0, 1) := by decide +kernel
theorem d_Md_ways_19 : decode prog_14_method_42_code 19 = .ok (.aload_n 0, 1) := by decide +kernel
theorem d_Md_ways_20 : decode prog_14_method_42_code 20 = .ok (.getfield 211, 3) := by decide +kernel
theorem d_Md_ways_23 : decode prog_14_method_42_code 23 = .ok (.iconst 0, 1) := by decide +kernel
theorem d_Md_ways_24 : decode prog_14_method_42_code 24 = .ok (.invokestatic 400, 3) := by decide +kernel
theorem d_Md_ways_27 : decode prog_14_method_42_code 27 = .ok (.iconst 0, 1) := by decide +kernel
theorem d_Md_ways_28 : decode prog_14_method_42_code 28 = .ok (.istore_n 3, 1) := by decide +kernel
theorem d_Md_ways_29 : decode prog_14_method_42_code 29 = .ok (.aload_n 0, 1) := by decide +kernel
theorem d_Md_ways_30 : decode prog_14_method_42_code 30 = .ok (.getfield 229, 3) := by decide +kernel
theorem d_Md_ways_33 : decode prog_14_method_42_code 33 = .ok (.iload_n 3, 1) := by decide +kernel
theorem d_Md_ways_34 : decode prog_14_method_42_code 34 = .ok (.iinc 3 1, 3) := by decide +kernel
theorem d_Md_ways_37 : decode prog_14_method_42_code 37 = .ok (.iload_n 1, 1) := by decide +kernel
theorem d_Md_ways_38 : decode prog_14_method_42_code 38 = .ok (.iastore, 1) := by decide +kernel
theorem d_Md_ways_39 : decode prog_14_method_42_code 39 = .ok (.iload_n 3, 1) := by decide +kernel
theorem d_Md_ways_40 : decode prog_14_method_42_code 40 = .ok (.ifCond .le 74, 3) := by decide +kernel
theorem d_Md_ways_43 : decode prog_14_method_42_code 43 = .ok (.aload_n 0, 1) := by decide +kernel
theorem d_Md_ways_44 : decode prog_14_method_42_code 44 = .ok (.getfield 205, 3) := by decide +kernel
theorem d_Md_ways_47 : decode prog_14_method_42_code 47 = .ok (.aload_n 0, 1) := by decide +kernel
theorem d_Md_ways_48 : decode prog_14_method_42_code 48 = .ok (.getfield 229, 3) := by decide +kernel
theorem d_Md_ways_51 : decode prog_14_method_42_code 51 = .ok (.iinc 3 (-1), 3) := by decide +kernel
theorem d_Md_ways_54 : decode prog_14_method_42_code 54 = .ok (.iload_n 3, 1) := by decide +kernel
theorem d_Md_ways_55 : decode prog_14_method_42_code 55 = .ok (.iaload, 1) := by decide +kernel
theorem d_Md_ways_56 : decode prog_14_method_42_code 56 = .ok (.aaload, 1) := by decide +kernel
theorem d_Md_ways_57 : decode prog_14_method_42_code 57 = .ok (.astore 4, 2) := by decide +kernel
theorem d_Md_ways_59 : decode prog_14_method_42_code 59 = .ok (.iconst 0, 1) := by decide +kernel
theorem d_Md_ways_60 : decode prog_14_method_42_code 60 = .ok (.istore 5, 2) := by decide +kernel
theorem d_Md_ways_62 : decode prog_14_method_42_code 62 = .ok (.iload 5, 2) := by decide +kernel
theorem d_Md_ways_64 : decode prog_14_method_42_code 64 = .ok (.aload_n 0, 1) := by decide +kernel
theorem d_Md_ways_65 : decode prog_14_method_42_code 65 = .ok (.getfield 211, 3) := by decide +kernel
theorem d_Md_ways_68 : decode prog_14_method_42_code 68 = .ok (.if_icmp .ge 43, 3) := by decide +kernel
theorem d_Md_ways_71 : decode prog_14_method_42_code 71 = .ok (.aload 4, 2) := by decide +kernel
theorem d_Md_ways_73 : decode prog_14_method_42_code 73 = .ok (.iload 5, 2) := by decide +kernel
theorem d_Md_ways_75 : decode prog_14_method_42_code 75 = .ok (.baload, 1) := by decide +kernel
theorem d_Md_ways_76 : decode prog_14_method_42_code 76 = .ok (.ifCond .eq 29, 3) := by decide +kernel
theorem d_Md_ways_79 : decode prog_14_method_42_code 79 = .ok (.aload_n 2, 1) := by decide +kernel
theorem d_Md_ways_80 : decode prog_14_method_42_code 80 = .ok (.iload 5, 2) := by decide +kernel
theorem d_Md_ways_82 : decode prog_14_method_42_code 82 = .ok (.baload, 1) := by decide +kernel
theorem d_Md_ways_83 : decode prog_14_method_42_code 83 = .ok (.ifCond .eq 6, 3) := by decide +kernel
theorem d_Md_ways_86 : decode prog_14_method_42_code 86 = .ok (.goto 19, 3) := by decide +kernel
theorem d_Md_ways_89 : decode prog_14_method_42_code 89 = .ok (.aload_n 2, 1) := by decide +kernel
theorem d_Md_ways_90 : decode prog_14_method_42_code 90 = .ok (.iload 5, 2) := by decide +kernel
theorem d_Md_ways_92 : decode prog_14_method_42_code 92 = .ok (.iconst 1, 1) := by decide +kernel
theorem d_Md_ways_93 : decode prog_14_method_42_code 93 = .ok (.bastore, 1) := by decide +kernel
theorem d_Md_ways_94 : decode prog_14_method_42_code 94 = .ok (.aload_n 0, 1) := by decide +kernel
theorem d_Md_ways_95 : decode prog_14_method_42_code 95 = .ok (.getfield 229, 3) := by decide +kernel
theorem d_Md_ways_98 : decode prog_14_method_42_code 98 = .ok (.iload_n 3, 1) := by decide +kernel
theorem d_Md_ways_99 : decode prog_14_method_42_code 99 = .ok (.iinc 3 1, 3) := by decide +kernel
theorem d_Md_ways_102 : decode prog_14_method_42_code 102 = .ok (.iload 5, 2) := by decide +kernel
theorem d_Md_ways_104 : decode prog_14_method_42_code 104 = .ok (.iastore, 1) := by decide +kernel
theorem d_Md_ways_105 : decode prog_14_method_42_code 105 = .ok (.iinc 5 1, 3) := by decide +kernel
theorem d_Md_ways_108 : decode prog_14_method_42_code 108 = .ok (.goto (-46), 3) := by decide +kernel
theorem d_Md_ways_111 : decode prog_14_method_42_code 111 = .ok (.goto (-72), 3) := by decide +kernel
theorem d_Md_ways_114 : decode prog_14_method_42_code 114 = .ok (.iinc 1 1, 3) := by decide +kernel
theorem d_Md_ways_117 : decode prog_14_method_42_code 117 = .ok (.goto (-115), 3) := by decide +kernel
theorem d_Md_ways_120 : decode prog_14_method_42_code 120 = .ok (.return_, 1) := by decide +kernel
/-- slot x is seen in the search from slot a -/
def vsd (a : Nat) (w : Nat → Int32) (x : Nat) : Prop := x = a ∨ w x = 1
theorem vsd.up {a x y : Nat} {w : Nat → Int32} (h : vsd a w x) : vsd a (upd w y 1) x := by
  rcases h with h | h
  · exact Or.inl h
  · by_cases e : x = y
    · exact Or.inr (by rw [e, upd_eq])
    · exact Or.inr ((upd_ne _ e).trans h)
theorem up1 {w : Nat → Int32} {x y : Nat} (h : w x = 1) : upd w y 1 x = 1 := by
  by_cases e : x = y
  · rw [e, upd_eq]
  · exact (upd_ne _ e).trans h
/-- the search from slot a: w is seen, S is the stack, of slot v's edges the first d are done -/
def wyI (Q : Nat → Nat → Prop) (n a v d : Nat) (w : Nat → Int32) (S : List Nat) : Prop := (∀ x, x < n → w x = 0 ∨ (w x = 1 ∧ pth Q 0 n a x)) ∧ (∀ x, x ∈ S → x < n ∧ vsd a w x) ∧ (∀ x, x < n → vsd a w x → x ∈ S ∨ (∀ y, y < n → Q x y → w y = 1) ∨ (x = v ∧ ∀ y, y < d → Q v y → w y = 1))
theorem wyI.init {Q : Nat → Nat → Prop} {n a : Nat} {w : Nat → Int32} (h : ∀ x, x < n → w x = 0) (ha : a < n) : wyI Q n a n 0 w [a] := by
  refine ⟨fun x hx => Or.inl (h x hx), fun x hx => ?_, fun x hx z => ?_⟩
  · rw [List.mem_singleton.mp hx]; exact ⟨ha, Or.inl rfl⟩
  · rcases z with z | z
    · exact Or.inl (List.mem_singleton.mpr z)
    · rw [h x hx] at z; exact absurd z (by decide)
theorem wyI.pop {Q : Nat → Nat → Prop} {n a v : Nat} {w : Nat → Int32} {S : List Nat} (h : wyI Q n a n 0 w (S ++ [v])) : wyI Q n a v 0 w S ∧ v < n ∧ vsd a w v := by
  have hv := h.2.1 v (List.mem_append_right _ (List.mem_singleton.mpr rfl))
  refine ⟨⟨h.1, fun x hx => h.2.1 x (List.mem_append_left _ hx), fun x hx z => ?_⟩, hv⟩
  rcases h.2.2 x hx z with y | y | y
  · rcases List.mem_append.mp y with y | y
    · exact Or.inl y
    · exact Or.inr (Or.inr ⟨List.mem_singleton.mp y, fun _ q => absurd q (Nat.not_lt_zero _)⟩)
  · exact Or.inr (Or.inl y)
  · omega
theorem wyI.pass {Q : Nat → Nat → Prop} {n a v d : Nat} {w : Nat → Int32} {S : List Nat} (h : wyI Q n a v d w S) (hd : Q v d → w d = 1) : wyI Q n a v (d + 1) w S := by
  refine ⟨h.1, h.2.1, fun x hx z => ?_⟩
  rcases h.2.2 x hx z with y | y | y
  · exact Or.inl y
  · exact Or.inr (Or.inl y)
  · exact Or.inr (Or.inr ⟨y.1, fun q hq => if e : q = d then by rw [e]; exact hd else y.2 q (by omega)⟩)
theorem wyI.one {Q : Nat → Nat → Prop} {n a v d : Nat} {w : Nat → Int32} {S : List Nat} (h : wyI Q n a v d w S) (hd : d < n) (h0 : ¬ w d = 0) : w d = 1 := ((h.1 d hd).resolve_left h0).1
theorem wyI.push {Q : Nat → Nat → Prop} {n a v d : Nat} {w : Nat → Int32} {S : List Nat} (h : wyI Q n a v d w S) (hvv : vsd a w v) (hv : v < n) (hd : d < n) (hq : Q v d) : wyI Q n a v (d + 1) (upd w d 1) (S ++ [d]) := by
  have hp : pth Q 0 n a d := by
    rcases hvv with e | e
    · rw [← e]; exact ⟨0, hq⟩
    · rcases h.1 v hv with z | ⟨_, k, z⟩
      · rw [z] at e; exact absurd e (by decide)
      · exact ⟨_, ptN.cat (j := 0) (Nat.zero_le _) hv hq z⟩
  refine ⟨fun x hx => ?_, fun x hx => ?_, fun x hx z => ?_⟩
  · by_cases e : x = d
    · rw [e, upd_eq]; exact Or.inr ⟨rfl, hp⟩
    · rw [upd_ne _ e]; exact h.1 x hx
  · rcases List.mem_append.mp hx with y | y
    · exact ⟨(h.2.1 x y).1, (h.2.1 x y).2.up⟩
    · rw [List.mem_singleton.mp y]; exact ⟨hd, Or.inr (upd_eq _ _ _)⟩
  · by_cases e : x = d
    · exact Or.inl (List.mem_append_right _ (List.mem_singleton.mpr e))
    · have z2 : vsd a w x := z.imp id (fun y => (upd_ne _ e).symm.trans y)
      rcases h.2.2 x hx z2 with y | y | y
      · exact Or.inl (List.mem_append_left _ y)
      · exact Or.inr (Or.inl (fun q hq1 hq2 => up1 (y q hq1 hq2)))
      · exact Or.inr (Or.inr ⟨y.1, fun q hq1 hq2 => if e2 : q = d then by rw [e2, upd_eq] else up1 (y.2 q (by omega) hq2)⟩)
theorem wyI.done {Q : Nat → Nat → Prop} {n a v : Nat} {w : Nat → Int32} {S : List Nat} (h : wyI Q n a v n w S) : wyI Q n a n 0 w S := by
  refine ⟨h.1, h.2.1, fun x hx z => ?_⟩
  rcases h.2.2 x hx z with y | y | y
  · exact Or.inl y
  · exact Or.inr (Or.inl y)
  · exact Or.inr (Or.inl (by rw [y.1]; exact y.2))
theorem wyI.all {Q : Nat → Nat → Prop} {n a : Nat} {w : Nat → Int32} (h : wyI Q n a n 0 w []) : ∀ k x y, x < n → y < n → vsd a w x → ptN Q 0 n k x y → w y = 1
  | 0, x, y, hx, hy, hv, hp => by
    rcases h.2.2 x hx hv with z | z | z
    · cases z
    · exact z y hy hp
    · omega
  | k + 1, x, y, hx, hy, hv, ⟨u, h1, h2, h3, h4⟩ => by
    rcases h.2.2 x hx hv with z | z | z
    · cases z
    · exact wyI.all h k u y h2 hy (Or.inr (z u h2 h3)) h4
    · omega
theorem wyI.end_ {Q : Nat → Nat → Prop} {n a : Nat} {w : Nat → Int32} (h : wyI Q n a n 0 w []) (ha : a < n) {y : Nat} (hy : y < n) : flg (w y) (pth Q 0 n a y) := by
  rcases h.1 y hy with z | z
  · refine Or.inr ⟨z, fun ⟨k, p⟩ => ?_⟩
    have := h.all k a y ha hy (Or.inl rfl) p
    rw [z] at this
    exact absurd this (by decide)
  · exact Or.inl z
/-- a slot that is seen, as a bit -/
def wb (w : Nat → Int32) (x : Nat) : Bool := w x == 1
theorem wb_in {w : Nat → Int32} {d n : Nat} (h : w d = 0) (hd : d < n) : cnt (wb (upd w d 1)) n = cnt (wb w) n + 1 := by
  have e1 : ∀ i, wb (upd w d 1) i = (wb w i || decide (i = d)) := fun i => by
    unfold wb
    by_cases e : i = d
    · subst e; rw [upd_eq]; simp
    · rw [upd_ne _ e]; simp [e]
  have e2 : wb w d = false := by unfold wb; rw [h]; rfl
  rw [cnt_in e1 e2 n, if_pos hd]
theorem last_of {S : List Nat} (h : 0 < S.length) : ∃ T v, S = T ++ [v] := by
  refine ⟨S.dropLast, S.getLast (fun e => by rw [e] at h; exact absurd h (Nat.lt_irrefl _)), ?_⟩
  exact (List.dropLast_concat_getLast _).symm
theorem arrL.last {A : Nat → Int32} {T : List Nat} {v : Nat} (h : arrL A (T ++ [v])) : A T.length = nI v ∧ arrL A T := by
  refine ⟨?_, fun i hi => ?_⟩
  · have := h T.length (by rw [List.length_append]; show T.length < T.length + 1; omega)
    rw [this, List.getD_eq_getElem?_getD, List.getElem?_append_right (Nat.le_refl _), Nat.sub_self]; rfl
  · have := h i (by rw [List.length_append]; show i < T.length + 1; omega)
    rw [this, List.getD_eq_getElem?_getD, List.getElem?_append_left hi, ← List.getD_eq_getElem?_getD]
set_option maxHeartbeats 4000000 in
set_option maxRecDepth 100000 in
/-- Arrays.rangeCheck where all is well -/
theorem m_Ar_rangeCheck (l : Launch) (dC : Nat → ClassId) (dI : Nat → Nat → Nat) (cI cB cL cZ cR : ClassId) (N k : Nat) (sz : Nat) (hN : N < 2147483648) (hk : k ≤ N) : Met l y_Ar_rangeCheck ws_Ar_rangeCheck ({ frames := 0, cells := 0, slots := 0, locals := 0 }) (xw_Pc dC dI [(cI, .int), (cB, .byte), (cL, .long), (cZ, .boolean), (cR, .object "PatchStore$Repository")] [.int (nI N), .int 0, .int (nI k)] [] sz) (va_Qv (fun _ : Unit => True) (fun _ t => xw_B dC dI [(cI, .int), (cB, .byte), (cL, .long), (cZ, .boolean), (cR, .object "PatchStore$Repository")] (va_A [] sz) [] t) (va_A [] sz)) 0 0 (va_A [] sz) := by
  refine Met.ofW (cc := prog_36_method_30_code) (maxL := 3) (ret := none) (by decide) rfl ?_
  intro p e s m args below meth c s₁ B hml hv
  obtain ⟨rfl, hsz, hP, hK, hD0⟩ := hv
  have hx := B.exec
  have hb := B.bytes
  have hr := B.returns
  have hts0 := atoms_spec (ws := ws_Ar_rangeCheck) B.pre
  have hts : ∀ w ∈ xg_1, w.before _ s = true := fun w h => hts0 w (List.mem_cons_of_mem _ h)
  have hown : s.vm.findClass "java/util/Arrays" = some m.cls := findClass_of_methodNamed B.named
  have hlocks := B.notSynchronized
  subst hsz
  have hD := hD0.self (sz := s.heap.size)
  generalize hAe : va_A [] s.heap.size = A at hD ⊢
  have hA : ∀ q : Nat, s.heap.size ≤ q → A q := fun q h => by rw [← hAe]; exact Or.inr h
  have hS : va_S A s.heap s.heap [] := va_S.rf
  have hl := lv_entry ([.int (nI N), .int 0, .int (nI k)]) (n := 3) (Nat.le_of_ble_eq_true rfl)
  rw [lg_entry_eq]
  generalize (lg_sl ([.int (nI N), .int 0, .int (nI k)]) ++ List.replicate (3 - (lg_sl ([.int (nI N), .int 0, .int (nI k)])).length) Slot.unset).toArray = ls at hl ⊢
  have hl : lv_has ls 3 [(0, .int (nI N)), (1, .int 0), (2, .int (nI k))] := hl
  refine lv_iload_n hx hb d_Ar_rangeCheck_0 rfl (lv_at hl 1 rfl) ?_
  refine lv_iload_n hx hb d_Ar_rangeCheck_1 rfl (lv_at hl 2 rfl) ?_
  refine lv_icmp_le (tgt := 46) hx hb d_Ar_rangeCheck_2 (by decide) (fun _ => ?_) (fun c_2 => absurd (Int32.not_lt.mp (nI_pos (by omega))) c_2)
  refine lv_iload_n hx hb d_Ar_rangeCheck_46 rfl (lv_at hl 1 rfl) ?_
  refine lv_if_ge (tgt := 59) hx hb d_Ar_rangeCheck_47 (by decide) (fun _ => ?_) (fun c_47 => absurd (by decide) c_47)
  refine lv_iload_n hx hb d_Ar_rangeCheck_59 rfl (lv_at hl 2 rfl) ?_
  refine lv_iload_n hx hb d_Ar_rangeCheck_60 rfl (lv_at hl 0 rfl) ?_
  refine lv_icmp_le (tgt := 73) hx hb d_Ar_rangeCheck_61 (by decide) (fun _ => ?_) (fun c_61 => absurd ((nI_leI (by omega) (by omega)).mpr hk) c_61)
  exact W.vret hx hb hr (fun t ht hW => ⟨⟨(), rfl, trivial, by rw [ht]; exact hP, va_K.moved hW.alike hK, hD⟩, hS.F ht⟩) hS.2.2 d_Ar_rangeCheck_73
set_option maxHeartbeats 4000000 in
set_option maxRecDepth 100000 in
/-- Arrays.fill of a part of a row -/
theorem m_Ar_fillE (l : Launch) (dC : Nat → ClassId) (dI : Nat → Nat → Nat) (cI cB cL cZ cR cBB cZZ cII : ClassId) (G : Gr) (i9 k9 : Nat) (sz : Nat) (hi9 : i9 < 400) (hk9 : k9 ≤ 400) : Met l y_Ar_fill1 ws_Ar_fill1 ({ frames := 1, cells := 0, slots := 0, locals := 60 }) (xw_Pc dC dI [(cI, .int), (cB, .byte), (cL, .long), (cZ, .boolean), (cR, .object "PatchStore$Repository"), (cBB, .array .byte), (cZZ, .array .boolean), (cII, .array .int)] [.ref (G.ae i9), .int 0, .int (nI k9), .int 0] (([] : va_W) ++ gdA cI cB cZ G) sz) (va_Qv (fun u : Nat → Nat → Int32 => (∀ j, j < k9 → u i9 j = 0) ∧ ∀ x, ¬ x = i9 → u x = G.E x) (fun u t => xw_B dC dI [(cI, .int), (cB, .byte), (cL, .long), (cZ, .boolean), (cR, .object "PatchStore$Repository"), (cBB, .array .byte), (cZZ, .array .boolean), (cII, .array .int)] (va_A (([] : va_W) ++ gdA cI cB cZ G) sz) (([] : va_W) ++ gdA cI cB cZ (G.wE u)) t) (va_A (([] : va_W) ++ gdA cI cB cZ G) sz)) 0 0 (va_A (([] : va_W) ++ gdA cI cB cZ G) sz) := by
  refine Met.ofW (cc := prog_36_method_112_code) (maxL := 5) (ret := none) (by decide) rfl ?_
  intro p e s m args below meth c s₁ B hml hv
  obtain ⟨rfl, hsz, hP, hK, hD0⟩ := hv
  have hx := B.exec
  have hb := B.bytes
  have hr := B.returns
  have hts0 := atoms_spec (ws := ws_Ar_fill1) B.pre
  have hts : ∀ w ∈ xg_1, w.before _ s = true := fun w h => hts0 w (List.mem_cons_of_mem _ h)
  have hown : s.vm.findClass "java/util/Arrays" = some m.cls := findClass_of_methodNamed B.named
  have hlocks := B.notSynchronized
  subst hsz
  have hD := hD0.self (sz := s.heap.size)
  generalize hAe : va_A (([] : va_W) ++ gdA cI cB cZ G) s.heap.size = A at hD ⊢
  have hA : ∀ q : Nat, s.heap.size ≤ q → A q := fun q h => by rw [← hAe]; exact Or.inr h
  have hS : va_S A s.heap s.heap [] := va_S.rf
  have hl := lv_entry ([.ref (G.ae i9), .int 0, .int (nI k9), .int 0]) (n := 5) (Nat.le_of_ble_eq_true rfl)
  rw [lg_entry_eq]
  generalize (lg_sl ([.ref (G.ae i9), .int 0, .int (nI k9), .int 0]) ++ List.replicate (5 - (lg_sl ([.ref (G.ae i9), .int 0, .int (nI k9), .int 0])).length) Slot.unset).toArray = ls at hl ⊢
  have hl : lv_has ls 5 [(0, .ref (G.ae i9)), (1, .int 0), (2, .int (nI k9)), (3, .int 0)] := hl
  generalize hQe : MQ _ _ _ _ _ _ _ = Q
  refine lv_aload_n hx hb d_Ar_fill1_0 rfl (lv_at hl 0 rfl) ?_
  refine va_alen (v := nI 400) hx hb hK hP (0 + (i9)) 3 (gA_E rfl (by omega)) rfl rfl d_Ar_fill1_1 ?_
  refine lv_iload_n hx hb d_Ar_fill1_2 rfl (lv_at hl 1 rfl) ?_
  refine lv_iload_n hx hb d_Ar_fill1_3 rfl (lv_at hl 2 rfl) ?_
  have hPc := xd_P (va_P.part (cx := []) hP [] rfl)
  have hDc := xd_D (va_D.part (cx := []) hD [] (by decide) rfl)
  have hFc := xd_F (va_freeP (cx := []) hD hS hA [] rfl)
  refine va_callv (va_runS (As := [.int (nI 400), .int 0, .int (nI k9)]) (rest := []) ⟨hx, hb, hml, hown, hts⟩ (m_Ar_rangeCheck l dC dI cI cB cL cZ cR 400 k9 s.heap.size (by decide) hk9) ⟨callB_of 3 hts (xg_in gw_1924) rfl rfl rfl (hts _ gw_22) (hts _ gw_1922) (by decide +kernel) ⟨Nat.le_of_ble_eq_true rfl, Nat.le_of_ble_eq_true rfl⟩, hts _ gw_1923⟩ ⟨xw_blind, fun U hU hW => ⟨rfl, by rw [hU], by rw [hU]; exact hPc, va_K.moved hW.alike (hK.sub (tys' := [(cI, .int), (cB, .byte), (cL, .long), (cZ, .boolean), (cR, .object "PatchStore$Repository")]) [0, 1, 2, 3, 4] rfl), hDc.weaken (fun _ _ _ _ => trivial)⟩⟩ rfl rfl hl.1 rfl (lv_room (Nat.le_of_ble_eq_true rfl)) d_Ar_fill1_4 ⟨Nat.le_of_ble_eq_true rfl, Nat.le_of_ble_eq_true rfl⟩) hS (fun q _ h => hFc q h) hFc (fun u t H1 locs ht hvm hw hB hz1 hk1 hS => ?_)
  obtain ⟨hP1, hK1, hD1⟩ := hB
  rw [ht] at hP1
  obtain ⟨hP, hD⟩ := va_joinQ (wr := []) (w1 := []) hP hD [] [] rfl rfl (by decide) (by decide) hk1 hFc hP1 hD1
  generalize H1 = H at hP hS ⊢
  have hP : va_P (dC, dI) classes (([] : va_W) ++ gdA cI cB cZ G) H := hP
  have hD : va_D A (([] : va_W) ++ gdA cI cB cZ G) := hD
  refine lv_iload_n hx hb d_Ar_fill1_7 rfl (lv_at hl 1 rfl) ?_
  refine lv_istore (lv' := [(4, .int 0), (0, .ref (G.ae i9)), (1, .int 0), (2, .int (nI k9)), (3, .int 0)]) hx hb d_Ar_fill1_8 hl (by decide) rfl (fun ls hl => ?_)
  have loop_10 : ∀ (n9 : Nat) (q : Nat) (Eu : Nat → Nat → Int32) (H : Heap) (locs : List Loc) (ls : Array Slot), k9 - q < n9 → (q ≤ k9) → (∀ j, j < q → Eu i9 j = 0) → (∀ x, ¬ x = i9 → Eu x = G.E x) → va_P (dC, dI) classes (([] : va_W) ++ gdA cI cB cZ (G.wE Eu)) H → va_D A (([] : va_W) ++ gdA cI cB cZ (G.wE Eu)) → va_S A s.heap H locs → lv_has ls 5 [(0, .ref (G.ae i9)), (1, .int 0), (2, .int (nI k9)), (3, .int 0), (4, .int (nI q))] → W p l e (headSpec ws_Ar_fill1 ({ frames := 1, cells := 0, slots := 0, locals := 60 })).room s m ([.ref (G.ae i9), .int 0, .int (nI k9), .int 0] : List Value).toArray below meth c H locs 0 0 Q (F0 m 10 ls []) := by
    intro n9
    induction n9 with
    | zero => intro q Eu H locs ls hm; exact absurd hm (Nat.not_lt_zero _)
    | succ n9 ih_10 =>
      intro q Eu H locs ls hm hq hf ho9 hP hD hS hl
      refine lv_iload hx hb d_Ar_fill1_10 (lv_at hl 4 rfl) ?_
      refine lv_iload_n hx hb d_Ar_fill1_12 rfl (lv_at hl 2 rfl) ?_
      refine lv_icmp_ge (tgt := 27) hx hb d_Ar_fill1_13 (by decide) (fun c_13 => ?_) (fun c_13 => ?_)
      · have n_13 : k9 ≤ q := (nI_leI (a := k9) (b := q) (by omega) (by omega)).mp c_13
        rw [← hQe]
        exact W.vret hx hb hr (fun t ht hW => ⟨⟨Eu, rfl, ⟨fun j z => hf j (by omega), ho9⟩, by rw [ht]; exact hP, va_K.moved hW.alike hK, hD⟩, hS.F ht⟩) hS.2.2 d_Ar_fill1_27
      · have n_13 : q < k9 := Nat.lt_of_not_le (fun z => c_13 ((nI_leI (a := k9) (b := q) (by omega) (by omega)).mpr z))
        refine lv_aload_n hx hb d_Ar_fill1_16 rfl (lv_at hl 0 rfl) ?_
        refine lv_iload hx hb d_Ar_fill1_17 (lv_at hl 4 rfl) ?_
        refine lv_iload_n hx hb d_Ar_fill1_19 rfl (lv_at hl 3 rfl) ?_
        refine va_zast hx hb hK hP hD hS (0 + (i9)) 3 (gA_E rfl (by omega)) rfl (vp_in_nI (by omega) (by omega)) d_Ar_fill1_20 (fun H locs hP hD hS => ?_)
        rw [show (nI q).toNatClampNeg = q from nI_clamp (by omega)] at hP hD
        rw [show vp_nar .boolean 0 = 0 from rfl] at hP hD
        rw [gA_sE (X := []) (n := 0) (i := i9) rfl (by omega)] at hP hD
        have hP : va_P (dC, dI) classes (([] : va_W) ++ gdA cI cB cZ ((G.wE Eu).sE i9 (upd ((G.wE Eu).E i9) q 0))) H := hP
        have hD : va_D A (([] : va_W) ++ gdA cI cB cZ ((G.wE Eu).sE i9 (upd ((G.wE Eu).E i9) q 0))) := hD
        refine lv_iinc (v := nI (q + 1)) (lv' := [(4, .int (nI (q + 1))), (0, .ref (G.ae i9)), (1, .int 0), (2, .int (nI k9)), (3, .int 0)]) hx hb d_Ar_fill1_21 hl (k := 4) rfl (by exact nI_add _ _) (by decide) rfl (fun ls hl => ?_)
        refine lv_goto (tgt := 10) hx hb d_Ar_fill1_24 (by decide) ?_
        exact ih_10 (q + 1) (va_up Eu i9 (upd (Eu i9) q 0)) _ _ _ (by omega) (by omega) (fun j z => by rw [va_up_self]; exact if e9 : j = q then by rw [e9, upd_eq] else (upd_ne _ e9).trans (hf j (by omega))) (fun x z => (va_up_ne _ _ z).trans (ho9 x z)) hP hD hS (lv_sub hl [1, 2, 3, 4, 0] rfl)
  exact loop_10 _ 0 G.E _ _ _ (Nat.lt_succ_self _) (Nat.zero_le _) (fun j z => absurd z (Nat.not_lt_zero _)) (fun x _ => rfl) hP hD hS (lv_sub hl [1, 2, 3, 4, 0] rfl)
set_option maxHeartbeats 4000000 in
set_option maxRecDepth 100000 in
/-- Arrays.fill of a part of a row -/
theorem m_Ar_fillW (l : Launch) (dC : Nat → ClassId) (dI : Nat → Nat → Nat) (cI cB cL cZ cR cBB cZZ cII : ClassId) (G : Gr) (i9 k9 : Nat) (sz : Nat) (hi9 : i9 < 400) (hk9 : k9 ≤ 400) : Met l y_Ar_fill1 ws_Ar_fill1 ({ frames := 1, cells := 0, slots := 0, locals := 60 }) (xw_Pc dC dI [(cI, .int), (cB, .byte), (cL, .long), (cZ, .boolean), (cR, .object "PatchStore$Repository"), (cBB, .array .byte), (cZZ, .array .boolean), (cII, .array .int)] [.ref (G.aw i9), .int 0, .int (nI k9), .int 0] (([] : va_W) ++ gdA cI cB cZ G) sz) (va_Qv (fun u : Nat → Nat → Int32 => (∀ j, j < k9 → u i9 j = 0) ∧ ∀ x, ¬ x = i9 → u x = G.W x) (fun u t => xw_B dC dI [(cI, .int), (cB, .byte), (cL, .long), (cZ, .boolean), (cR, .object "PatchStore$Repository"), (cBB, .array .byte), (cZZ, .array .boolean), (cII, .array .int)] (va_A (([] : va_W) ++ gdA cI cB cZ G) sz) (([] : va_W) ++ gdA cI cB cZ (G.wW u)) t) (va_A (([] : va_W) ++ gdA cI cB cZ G) sz)) 0 0 (va_A (([] : va_W) ++ gdA cI cB cZ G) sz) := by
  refine Met.ofW (cc := prog_36_method_112_code) (maxL := 5) (ret := none) (by decide) rfl ?_
  intro p e s m args below meth c s₁ B hml hv
  obtain ⟨rfl, hsz, hP, hK, hD0⟩ := hv
  have hx := B.exec
  have hb := B.bytes
  have hr := B.returns
  have hts0 := atoms_spec (ws := ws_Ar_fill1) B.pre
  have hts : ∀ w ∈ xg_1, w.before _ s = true := fun w h => hts0 w (List.mem_cons_of_mem _ h)
  have hown : s.vm.findClass "java/util/Arrays" = some m.cls := findClass_of_methodNamed B.named
  have hlocks := B.notSynchronized
  subst hsz
  have hD := hD0.self (sz := s.heap.size)
  generalize hAe : va_A (([] : va_W) ++ gdA cI cB cZ G) s.heap.size = A at hD ⊢
  have hA : ∀ q : Nat, s.heap.size ≤ q → A q := fun q h => by rw [← hAe]; exact Or.inr h
  have hS : va_S A s.heap s.heap [] := va_S.rf
  have hl := lv_entry ([.ref (G.aw i9), .int 0, .int (nI k9), .int 0]) (n := 5) (Nat.le_of_ble_eq_true rfl)
  rw [lg_entry_eq]
  generalize (lg_sl ([.ref (G.aw i9), .int 0, .int (nI k9), .int 0]) ++ List.replicate (5 - (lg_sl ([.ref (G.aw i9), .int 0, .int (nI k9), .int 0])).length) Slot.unset).toArray = ls at hl ⊢
  have hl : lv_has ls 5 [(0, .ref (G.aw i9)), (1, .int 0), (2, .int (nI k9)), (3, .int 0)] := hl
  generalize hQe : MQ _ _ _ _ _ _ _ = Q
  refine lv_aload_n hx hb d_Ar_fill1_0 rfl (lv_at hl 0 rfl) ?_
  refine va_alen (v := nI 400) hx hb hK hP (0 + (400 + i9)) 3 (gA_W rfl (by omega)) rfl rfl d_Ar_fill1_1 ?_
  refine lv_iload_n hx hb d_Ar_fill1_2 rfl (lv_at hl 1 rfl) ?_
  refine lv_iload_n hx hb d_Ar_fill1_3 rfl (lv_at hl 2 rfl) ?_
  have hPc := xd_P (va_P.part (cx := []) hP [] rfl)
  have hDc := xd_D (va_D.part (cx := []) hD [] (by decide) rfl)
  have hFc := xd_F (va_freeP (cx := []) hD hS hA [] rfl)
  refine va_callv (va_runS (As := [.int (nI 400), .int 0, .int (nI k9)]) (rest := []) ⟨hx, hb, hml, hown, hts⟩ (m_Ar_rangeCheck l dC dI cI cB cL cZ cR 400 k9 s.heap.size (by decide) hk9) ⟨callB_of 3 hts (xg_in gw_1924) rfl rfl rfl (hts _ gw_22) (hts _ gw_1922) (by decide +kernel) ⟨Nat.le_of_ble_eq_true rfl, Nat.le_of_ble_eq_true rfl⟩, hts _ gw_1923⟩ ⟨xw_blind, fun U hU hW => ⟨rfl, by rw [hU], by rw [hU]; exact hPc, va_K.moved hW.alike (hK.sub (tys' := [(cI, .int), (cB, .byte), (cL, .long), (cZ, .boolean), (cR, .object "PatchStore$Repository")]) [0, 1, 2, 3, 4] rfl), hDc.weaken (fun _ _ _ _ => trivial)⟩⟩ rfl rfl hl.1 rfl (lv_room (Nat.le_of_ble_eq_true rfl)) d_Ar_fill1_4 ⟨Nat.le_of_ble_eq_true rfl, Nat.le_of_ble_eq_true rfl⟩) hS (fun q _ h => hFc q h) hFc (fun u t H1 locs ht hvm hw hB hz1 hk1 hS => ?_)
  obtain ⟨hP1, hK1, hD1⟩ := hB
  rw [ht] at hP1
  obtain ⟨hP, hD⟩ := va_joinQ (wr := []) (w1 := []) hP hD [] [] rfl rfl (by decide) (by decide) hk1 hFc hP1 hD1
  generalize H1 = H at hP hS ⊢
  have hP : va_P (dC, dI) classes (([] : va_W) ++ gdA cI cB cZ G) H := hP
  have hD : va_D A (([] : va_W) ++ gdA cI cB cZ G) := hD
  refine lv_iload_n hx hb d_Ar_fill1_7 rfl (lv_at hl 1 rfl) ?_
  refine lv_istore (lv' := [(4, .int 0), (0, .ref (G.aw i9)), (1, .int 0), (2, .int (nI k9)), (3, .int 0)]) hx hb d_Ar_fill1_8 hl (by decide) rfl (fun ls hl => ?_)
  have loop_10 : ∀ (n9 : Nat) (q : Nat) (Eu : Nat → Nat → Int32) (H : Heap) (locs : List Loc) (ls : Array Slot), k9 - q < n9 → (q ≤ k9) → (∀ j, j < q → Eu i9 j = 0) → (∀ x, ¬ x = i9 → Eu x = G.W x) → va_P (dC, dI) classes (([] : va_W) ++ gdA cI cB cZ (G.wW Eu)) H → va_D A (([] : va_W) ++ gdA cI cB cZ (G.wW Eu)) → va_S A s.heap H locs → lv_has ls 5 [(0, .ref (G.aw i9)), (1, .int 0), (2, .int (nI k9)), (3, .int 0), (4, .int (nI q))] → W p l e (headSpec ws_Ar_fill1 ({ frames := 1, cells := 0, slots := 0, locals := 60 })).room s m ([.ref (G.aw i9), .int 0, .int (nI k9), .int 0] : List Value).toArray below meth c H locs 0 0 Q (F0 m 10 ls []) := by
    intro n9
    induction n9 with
    | zero => intro q Eu H locs ls hm; exact absurd hm (Nat.not_lt_zero _)
    | succ n9 ih_10 =>
      intro q Eu H locs ls hm hq hf ho9 hP hD hS hl
      refine lv_iload hx hb d_Ar_fill1_10 (lv_at hl 4 rfl) ?_
      refine lv_iload_n hx hb d_Ar_fill1_12 rfl (lv_at hl 2 rfl) ?_
      refine lv_icmp_ge (tgt := 27) hx hb d_Ar_fill1_13 (by decide) (fun c_13 => ?_) (fun c_13 => ?_)
      · have n_13 : k9 ≤ q := (nI_leI (a := k9) (b := q) (by omega) (by omega)).mp c_13
        rw [← hQe]
        exact W.vret hx hb hr (fun t ht hW => ⟨⟨Eu, rfl, ⟨fun j z => hf j (by omega), ho9⟩, by rw [ht]; exact hP, va_K.moved hW.alike hK, hD⟩, hS.F ht⟩) hS.2.2 d_Ar_fill1_27
      · have n_13 : q < k9 := Nat.lt_of_not_le (fun z => c_13 ((nI_leI (a := k9) (b := q) (by omega) (by omega)).mpr z))
        refine lv_aload_n hx hb d_Ar_fill1_16 rfl (lv_at hl 0 rfl) ?_
        refine lv_iload hx hb d_Ar_fill1_17 (lv_at hl 4 rfl) ?_
        refine lv_iload_n hx hb d_Ar_fill1_19 rfl (lv_at hl 3 rfl) ?_
        refine va_zast hx hb hK hP hD hS (0 + (400 + i9)) 3 (gA_W rfl (by omega)) rfl (vp_in_nI (by omega) (by omega)) d_Ar_fill1_20 (fun H locs hP hD hS => ?_)
        rw [show (nI q).toNatClampNeg = q from nI_clamp (by omega)] at hP hD
        rw [show vp_nar .boolean 0 = 0 from rfl] at hP hD
        rw [gA_sW (X := []) (n := 0) (i := i9) rfl (by omega)] at hP hD
        have hP : va_P (dC, dI) classes (([] : va_W) ++ gdA cI cB cZ ((G.wW Eu).sW i9 (upd ((G.wW Eu).W i9) q 0))) H := hP
        have hD : va_D A (([] : va_W) ++ gdA cI cB cZ ((G.wW Eu).sW i9 (upd ((G.wW Eu).W i9) q 0))) := hD
        refine lv_iinc (v := nI (q + 1)) (lv' := [(4, .int (nI (q + 1))), (0, .ref (G.aw i9)), (1, .int 0), (2, .int (nI k9)), (3, .int 0)]) hx hb d_Ar_fill1_21 hl (k := 4) rfl (by exact nI_add _ _) (by decide) rfl (fun ls hl => ?_)
        refine lv_goto (tgt := 10) hx hb d_Ar_fill1_24 (by decide) ?_
        exact ih_10 (q + 1) (va_up Eu i9 (upd (Eu i9) q 0)) _ _ _ (by omega) (by omega) (fun j z => by rw [va_up_self]; exact if e9 : j = q then by rw [e9, upd_eq] else (upd_ne _ e9).trans (hf j (by omega))) (fun x z => (va_up_ne _ _ z).trans (ho9 x z)) hP hD hS (lv_sub hl [1, 2, 3, 4, 0] rfl)
  exact loop_10 _ 0 G.W _ _ _ (Nat.lt_succ_self _) (Nat.zero_le _) (fun j z => absurd z (Nat.not_lt_zero _)) (fun x _ => rfl) hP hD hS (lv_sub hl [1, 2, 3, 4, 0] rfl)
set_option maxHeartbeats 4000000 in
set_option maxRecDepth 100000 in
/-- the ways between lines -/
theorem m_Md_ways (l : Launch) (dC : Nat → ClassId) (dI : Nat → Nat → Nat) (cI cB cL cZ cR cBB cZZ cII : ClassId) (md wyA egA skM : Nat) (md_tape md_size md_thrown md_fault md_bytes md_used md_at md_length md_depAt md_firstChange md_hashes md_deps md_patches md_sort md_of md_fileOf md_one md_two md_nameAt md_nameSize md_overAt md_overCount md_lineAt md_lineCount md_changes md_overs md_overTotal md_lineChange md_textAt md_textSize md_lines md_fileChange md_fileLines md_files md_sets md_stamp md_digest md_in md_pos md_stop md_wrong md_dep md_named md_depCount md_own md_refFile md_full md_h md_counts md_marked md_namings md_namingCount md_listed md_listedCount md_listedStamp md_member md_text md_place md_dead md_textLines md_unsure md_workedRepository md_workedFile md_workedStamp md_before md_left md_made md_madeSize md_need md_needs md_newAt md_newSize md_news md_common md_keptAs md_isNew md_keptFrom md_stateOf md_rising : Value) (gw ge : Nat → Option Nat) (st0 : Nat → Int32) (G : Gr) (Qr : Nat → Nat → Prop) (mm : Nat) (sz : Nat) (hmm : mm ≤ 400) (hgw : ∀ i, i < 400 → gw i = some (G.aw i)) (hge : ∀ a, a < 400 → ge a = some (G.ae a)) (hEQ : ∀ a b, a < mm → b < mm → flg (G.E a b) (Qr a b)) : Met l y_Md_ways ws_Md_ways ({ frames := 2, cells := 0, slots := 0, locals := 140 }) (xw_Pc dC dI [(cI, .int), (cB, .byte), (cL, .long), (cZ, .boolean), (cR, .object "PatchStore$Repository"), (cBB, .array .byte), (cZZ, .array .boolean), (cII, .array .int)] [.ref md] (([(md, .inr (12, [md_tape, md_size, md_thrown, md_fault, md_bytes, md_used, md_at, md_length, md_depAt, md_firstChange, md_hashes, md_deps, md_patches, md_sort, md_of, md_fileOf, md_one, md_two, md_nameAt, md_nameSize, md_overAt, md_overCount, md_lineAt, md_lineCount, md_changes, md_overs, md_overTotal, md_lineChange, md_textAt, md_textSize, md_lines, md_fileChange, md_fileLines, md_files, md_sets, md_stamp, md_digest, md_in, md_pos, md_stop, md_wrong, md_dep, md_named, md_depCount, md_own, md_refFile, md_full, md_h, md_counts, md_marked, md_namings, md_namingCount, md_listed, md_listedCount, md_listedStamp, md_member, md_text, md_place, md_dead, .ref egA, .ref wyA, .int (nI mm), md_textLines, md_unsure, md_workedRepository, md_workedFile, md_workedStamp, .ref skM, md_before, md_left, md_made, md_madeSize, md_need, md_needs, md_newAt, md_newSize, md_news, md_common, md_keptAs, md_isNew, md_keptFrom, md_stateOf, md_rising])), (wyA, .inl (cZZ, 400, .inr (.inr (.inr (.inr gw))))), (egA, .inl (cZZ, 400, .inr (.inr (.inr (.inr ge))))), (skM, .inl (cI, 400, .inl st0))] : va_W) ++ gdA cI cB cZ G) sz) (va_Qv (fun u : (Nat → Nat → Int32) × (Nat → Int32) => ∀ x y, x < mm → y < mm → flg (u.1 x y) (pth Qr 0 mm x y)) (fun u t => xw_B dC dI [(cI, .int), (cB, .byte), (cL, .long), (cZ, .boolean), (cR, .object "PatchStore$Repository"), (cBB, .array .byte), (cZZ, .array .boolean), (cII, .array .int)] (va_A (([(md, .inr (12, [md_tape, md_size, md_thrown, md_fault, md_bytes, md_used, md_at, md_length, md_depAt, md_firstChange, md_hashes, md_deps, md_patches, md_sort, md_of, md_fileOf, md_one, md_two, md_nameAt, md_nameSize, md_overAt, md_overCount, md_lineAt, md_lineCount, md_changes, md_overs, md_overTotal, md_lineChange, md_textAt, md_textSize, md_lines, md_fileChange, md_fileLines, md_files, md_sets, md_stamp, md_digest, md_in, md_pos, md_stop, md_wrong, md_dep, md_named, md_depCount, md_own, md_refFile, md_full, md_h, md_counts, md_marked, md_namings, md_namingCount, md_listed, md_listedCount, md_listedStamp, md_member, md_text, md_place, md_dead, .ref egA, .ref wyA, .int (nI mm), md_textLines, md_unsure, md_workedRepository, md_workedFile, md_workedStamp, .ref skM, md_before, md_left, md_made, md_madeSize, md_need, md_needs, md_newAt, md_newSize, md_news, md_common, md_keptAs, md_isNew, md_keptFrom, md_stateOf, md_rising])), (wyA, .inl (cZZ, 400, .inr (.inr (.inr (.inr gw))))), (egA, .inl (cZZ, 400, .inr (.inr (.inr (.inr ge))))), (skM, .inl (cI, 400, .inl st0))] : va_W) ++ gdA cI cB cZ G) sz) (([(md, .inr (12, [md_tape, md_size, md_thrown, md_fault, md_bytes, md_used, md_at, md_length, md_depAt, md_firstChange, md_hashes, md_deps, md_patches, md_sort, md_of, md_fileOf, md_one, md_two, md_nameAt, md_nameSize, md_overAt, md_overCount, md_lineAt, md_lineCount, md_changes, md_overs, md_overTotal, md_lineChange, md_textAt, md_textSize, md_lines, md_fileChange, md_fileLines, md_files, md_sets, md_stamp, md_digest, md_in, md_pos, md_stop, md_wrong, md_dep, md_named, md_depCount, md_own, md_refFile, md_full, md_h, md_counts, md_marked, md_namings, md_namingCount, md_listed, md_listedCount, md_listedStamp, md_member, md_text, md_place, md_dead, .ref egA, .ref wyA, .int (nI mm), md_textLines, md_unsure, md_workedRepository, md_workedFile, md_workedStamp, .ref skM, md_before, md_left, md_made, md_madeSize, md_need, md_needs, md_newAt, md_newSize, md_news, md_common, md_keptAs, md_isNew, md_keptFrom, md_stateOf, md_rising])), (wyA, .inl (cZZ, 400, .inr (.inr (.inr (.inr gw))))), (egA, .inl (cZZ, 400, .inr (.inr (.inr (.inr ge))))), (skM, .inl (cI, 400, .inl u.2))] : va_W) ++ gdA cI cB cZ (G.wW u.1)) t) (va_A (([(md, .inr (12, [md_tape, md_size, md_thrown, md_fault, md_bytes, md_used, md_at, md_length, md_depAt, md_firstChange, md_hashes, md_deps, md_patches, md_sort, md_of, md_fileOf, md_one, md_two, md_nameAt, md_nameSize, md_overAt, md_overCount, md_lineAt, md_lineCount, md_changes, md_overs, md_overTotal, md_lineChange, md_textAt, md_textSize, md_lines, md_fileChange, md_fileLines, md_files, md_sets, md_stamp, md_digest, md_in, md_pos, md_stop, md_wrong, md_dep, md_named, md_depCount, md_own, md_refFile, md_full, md_h, md_counts, md_marked, md_namings, md_namingCount, md_listed, md_listedCount, md_listedStamp, md_member, md_text, md_place, md_dead, .ref egA, .ref wyA, .int (nI mm), md_textLines, md_unsure, md_workedRepository, md_workedFile, md_workedStamp, .ref skM, md_before, md_left, md_made, md_madeSize, md_need, md_needs, md_newAt, md_newSize, md_news, md_common, md_keptAs, md_isNew, md_keptFrom, md_stateOf, md_rising])), (wyA, .inl (cZZ, 400, .inr (.inr (.inr (.inr gw))))), (egA, .inl (cZZ, 400, .inr (.inr (.inr (.inr ge))))), (skM, .inl (cI, 400, .inl st0))] : va_W) ++ gdA cI cB cZ G) sz)) 0 0 (va_A (([(md, .inr (12, [md_tape, md_size, md_thrown, md_fault, md_bytes, md_used, md_at, md_length, md_depAt, md_firstChange, md_hashes, md_deps, md_patches, md_sort, md_of, md_fileOf, md_one, md_two, md_nameAt, md_nameSize, md_overAt, md_overCount, md_lineAt, md_lineCount, md_changes, md_overs, md_overTotal, md_lineChange, md_textAt, md_textSize, md_lines, md_fileChange, md_fileLines, md_files, md_sets, md_stamp, md_digest, md_in, md_pos, md_stop, md_wrong, md_dep, md_named, md_depCount, md_own, md_refFile, md_full, md_h, md_counts, md_marked, md_namings, md_namingCount, md_listed, md_listedCount, md_listedStamp, md_member, md_text, md_place, md_dead, .ref egA, .ref wyA, .int (nI mm), md_textLines, md_unsure, md_workedRepository, md_workedFile, md_workedStamp, .ref skM, md_before, md_left, md_made, md_madeSize, md_need, md_needs, md_newAt, md_newSize, md_news, md_common, md_keptAs, md_isNew, md_keptFrom, md_stateOf, md_rising])), (wyA, .inl (cZZ, 400, .inr (.inr (.inr (.inr gw))))), (egA, .inl (cZZ, 400, .inr (.inr (.inr (.inr ge))))), (skM, .inl (cI, 400, .inl st0))] : va_W) ++ gdA cI cB cZ G) sz) := by
  refine Met.ofW (cc := prog_14_method_42_code) (maxL := 6) (ret := none) (by decide) rfl ?_
  intro p e s m args below meth c s₁ B hml hv
  obtain ⟨rfl, hsz, hP, hK, hD0⟩ := hv
  have hx := B.exec
  have hb := B.bytes
  have hr := B.returns
  have hts0 := atoms_spec (ws := ws_Md_ways) B.pre
  have hts : ∀ w ∈ xg_1, w.before _ s = true := fun w h => hts0 w (List.mem_cons_of_mem _ h)
  have hown : s.vm.findClass "PatchStoreModel" = some m.cls := findClass_of_methodNamed B.named
  have hlocks := B.notSynchronized
  subst hsz
  have hD := hD0.self (sz := s.heap.size)
  generalize hAe : va_A (([(md, .inr (12, [md_tape, md_size, md_thrown, md_fault, md_bytes, md_used, md_at, md_length, md_depAt, md_firstChange, md_hashes, md_deps, md_patches, md_sort, md_of, md_fileOf, md_one, md_two, md_nameAt, md_nameSize, md_overAt, md_overCount, md_lineAt, md_lineCount, md_changes, md_overs, md_overTotal, md_lineChange, md_textAt, md_textSize, md_lines, md_fileChange, md_fileLines, md_files, md_sets, md_stamp, md_digest, md_in, md_pos, md_stop, md_wrong, md_dep, md_named, md_depCount, md_own, md_refFile, md_full, md_h, md_counts, md_marked, md_namings, md_namingCount, md_listed, md_listedCount, md_listedStamp, md_member, md_text, md_place, md_dead, .ref egA, .ref wyA, .int (nI mm), md_textLines, md_unsure, md_workedRepository, md_workedFile, md_workedStamp, .ref skM, md_before, md_left, md_made, md_madeSize, md_need, md_needs, md_newAt, md_newSize, md_news, md_common, md_keptAs, md_isNew, md_keptFrom, md_stateOf, md_rising])), (wyA, .inl (cZZ, 400, .inr (.inr (.inr (.inr gw))))), (egA, .inl (cZZ, 400, .inr (.inr (.inr (.inr ge))))), (skM, .inl (cI, 400, .inl st0))] : va_W) ++ gdA cI cB cZ G) s.heap.size = A at hD ⊢
  have hA : ∀ q : Nat, s.heap.size ≤ q → A q := fun q h => by rw [← hAe]; exact Or.inr h
  have hS : va_S A s.heap s.heap [] := va_S.rf
  have hl := lv_entry ([.ref md]) (n := 6) (Nat.le_of_ble_eq_true rfl)
  rw [lg_entry_eq]
  generalize (lg_sl ([.ref md]) ++ List.replicate (6 - (lg_sl ([.ref md])).length) Slot.unset).toArray = ls at hl ⊢
  have hl : lv_has ls 6 [(0, .ref md)] := hl
  generalize hQe : MQ _ _ _ _ _ _ _ = Q
  refine lv_iconst (v := 0) hx hb d_Md_ways_0 (by decide) ?_
  refine lv_istore_n (lv' := [(1, .int 0), (0, .ref md)]) hx hb d_Md_ways_1 rfl hl (by decide) rfl (fun ls hl => ?_)
  have loop_2 : ∀ (n9 : Nat) (aq : Nat) (Wu : Nat → Nat → Int32) (stu : Nat → Int32) (H : Heap) (locs : List Loc) (ls : Array Slot), mm - aq < n9 → (aq ≤ mm) → (∀ x y, x < aq → y < mm → flg (Wu x y) (pth Qr 0 mm x y)) → va_P (dC, dI) classes (([(md, .inr (12, [md_tape, md_size, md_thrown, md_fault, md_bytes, md_used, md_at, md_length, md_depAt, md_firstChange, md_hashes, md_deps, md_patches, md_sort, md_of, md_fileOf, md_one, md_two, md_nameAt, md_nameSize, md_overAt, md_overCount, md_lineAt, md_lineCount, md_changes, md_overs, md_overTotal, md_lineChange, md_textAt, md_textSize, md_lines, md_fileChange, md_fileLines, md_files, md_sets, md_stamp, md_digest, md_in, md_pos, md_stop, md_wrong, md_dep, md_named, md_depCount, md_own, md_refFile, md_full, md_h, md_counts, md_marked, md_namings, md_namingCount, md_listed, md_listedCount, md_listedStamp, md_member, md_text, md_place, md_dead, .ref egA, .ref wyA, .int (nI mm), md_textLines, md_unsure, md_workedRepository, md_workedFile, md_workedStamp, .ref skM, md_before, md_left, md_made, md_madeSize, md_need, md_needs, md_newAt, md_newSize, md_news, md_common, md_keptAs, md_isNew, md_keptFrom, md_stateOf, md_rising])), (wyA, .inl (cZZ, 400, .inr (.inr (.inr (.inr gw))))), (egA, .inl (cZZ, 400, .inr (.inr (.inr (.inr ge))))), (skM, .inl (cI, 400, .inl stu))] : va_W) ++ gdA cI cB cZ (G.wW Wu)) H → va_D A (([(md, .inr (12, [md_tape, md_size, md_thrown, md_fault, md_bytes, md_used, md_at, md_length, md_depAt, md_firstChange, md_hashes, md_deps, md_patches, md_sort, md_of, md_fileOf, md_one, md_two, md_nameAt, md_nameSize, md_overAt, md_overCount, md_lineAt, md_lineCount, md_changes, md_overs, md_overTotal, md_lineChange, md_textAt, md_textSize, md_lines, md_fileChange, md_fileLines, md_files, md_sets, md_stamp, md_digest, md_in, md_pos, md_stop, md_wrong, md_dep, md_named, md_depCount, md_own, md_refFile, md_full, md_h, md_counts, md_marked, md_namings, md_namingCount, md_listed, md_listedCount, md_listedStamp, md_member, md_text, md_place, md_dead, .ref egA, .ref wyA, .int (nI mm), md_textLines, md_unsure, md_workedRepository, md_workedFile, md_workedStamp, .ref skM, md_before, md_left, md_made, md_madeSize, md_need, md_needs, md_newAt, md_newSize, md_news, md_common, md_keptAs, md_isNew, md_keptFrom, md_stateOf, md_rising])), (wyA, .inl (cZZ, 400, .inr (.inr (.inr (.inr gw))))), (egA, .inl (cZZ, 400, .inr (.inr (.inr (.inr ge))))), (skM, .inl (cI, 400, .inl stu))] : va_W) ++ gdA cI cB cZ (G.wW Wu)) → va_S A s.heap H locs → lv_has ls 6 [(0, .ref md), (1, .int (nI aq))] → W p l e (headSpec ws_Md_ways ({ frames := 2, cells := 0, slots := 0, locals := 140 })).room s m ([.ref md] : List Value).toArray below meth c H locs 0 0 Q (F0 m 2 ls []) := by
    intro n9
    induction n9 with
    | zero => intro aq Wu stu H locs ls hm; exact absurd hm (Nat.not_lt_zero _)
    | succ n9 ih_2 =>
      intro aq Wu stu H locs ls hm haq hWu hP hD hS hl
      refine lv_iload_n hx hb d_Md_ways_2 rfl (lv_at hl 1 rfl) ?_
      refine lv_aload_n hx hb d_Md_ways_3 rfl (lv_at hl 0 rfl) ?_
      refine va_get (D := (dC, dI)) (ci := 12) (v := .int (nI mm)) (C := R_Md) (T := F_Md) (N := 83) hx hb hts i_Md hown hK hP 0 rfl rfl 61 (by decide) (hts _ gw_1479) (fun _ h9 => h9) rfl d_Md_ways_4 ?_
      refine lv_icmp_ge (tgt := 120) hx hb d_Md_ways_7 (by decide) (fun c_7 => ?_) (fun c_7 => ?_)
      · have n_7 : mm ≤ aq := (nI_leI (a := mm) (b := aq) (by omega) (by omega)).mp c_7
        rw [← hQe]
        exact W.vret hx hb hr (fun t ht hW => ⟨⟨(Wu, stu), rfl, fun x y h1 h2 => hWu x y (by omega) h2, by rw [ht]; exact hP, va_K.moved hW.alike hK, hD⟩, hS.F ht⟩) hS.2.2 d_Md_ways_120
      · have n_7 : aq < mm := Nat.lt_of_not_le (fun z => c_7 ((nI_leI (a := mm) (b := aq) (by omega) (by omega)).mpr z))
        refine lv_aload_n hx hb d_Md_ways_10 rfl (lv_at hl 0 rfl) ?_
        refine va_get (D := (dC, dI)) (ci := 12) (v := .ref wyA) (C := R_Md) (T := F_Md) (N := 83) hx hb hts i_Md hown hK hP 0 rfl rfl 60 (by decide) (hts _ gw_1478) (fun _ h9 => h9) rfl d_Md_ways_11 ?_
        refine lv_iload_n hx hb d_Md_ways_14 rfl (lv_at hl 1 rfl) ?_
        refine xq_ald hx hb hK hP 1 6 rfl rfl (y := (G.aw aq)) (vp_in_nI (by omega) (by omega)) (by rw [show (nI aq).toNatClampNeg = aq from nI_clamp (by omega)]; exact hgw _ (by omega)) d_Md_ways_15 ?_
        refine lv_astore_n (lv' := [(2, .ref (G.aw aq)), (0, .ref md), (1, .int (nI aq))]) hx hb d_Md_ways_16 rfl hl (by decide) rfl (fun ls hl => ?_)
        refine lv_aload_n hx hb d_Md_ways_17 rfl (lv_at hl 0 rfl) ?_
        refine lv_iconst (v := 0) hx hb d_Md_ways_18 (by decide) ?_
        refine lv_aload_n hx hb d_Md_ways_19 rfl (lv_at hl 1 rfl) ?_
        refine va_get (D := (dC, dI)) (ci := 12) (v := .int (nI mm)) (C := R_Md) (T := F_Md) (N := 83) hx hb hts i_Md hown hK hP 0 rfl rfl 61 (by decide) (hts _ gw_1479) (fun _ h9 => h9) rfl d_Md_ways_20 ?_
        refine lv_iconst (v := 0) hx hb d_Md_ways_23 (by decide) ?_
        have hPc := va_P.part (cx := []) hP [] rfl
        have hDc := va_D.part (cx := []) hD [] (by decide) rfl
        have hFc := va_freeP (cx := []) hD hS hA [] rfl
        refine va_callv (va_runS (As := [.ref (G.aw aq), .int 0, .int (nI mm), .int 0]) (rest := []) ⟨hx, hb, hml, hown, hts⟩ (m_Ar_fillW l dC dI cI cB cL cZ cR cBB cZZ cII (G.wW Wu) aq mm H.size (by omega) hmm) ⟨callB_of 4 hts (xg_in gw_1921) rfl rfl rfl (hts _ gw_22) (hts _ gw_1919) (by decide +kernel) ⟨Nat.le_of_ble_eq_true rfl, Nat.le_of_ble_eq_true rfl⟩, hts _ gw_1920⟩ ⟨xw_blind, fun U hU hW => ⟨rfl, by rw [hU], by rw [hU]; exact hPc, va_K.moved hW.alike hK, hDc.weaken (fun _ _ _ _ => trivial)⟩⟩ rfl rfl hl.1 rfl (lv_room (Nat.le_of_ble_eq_true rfl)) d_Md_ways_24 ⟨Nat.le_of_ble_eq_true rfl, Nat.le_of_ble_eq_true rfl⟩) hS (fun q _ h => hFc q h) hFc (fun Wf t H1 locs ht hvm hw hB hz1 hk1 hS => ?_)
        obtain ⟨hP1, hK1, hD1⟩ := hB
        rw [ht] at hP1
        obtain ⟨hP, hD⟩ := va_joinP (wr := [(md, .inr (12, [md_tape, md_size, md_thrown, md_fault, md_bytes, md_used, md_at, md_length, md_depAt, md_firstChange, md_hashes, md_deps, md_patches, md_sort, md_of, md_fileOf, md_one, md_two, md_nameAt, md_nameSize, md_overAt, md_overCount, md_lineAt, md_lineCount, md_changes, md_overs, md_overTotal, md_lineChange, md_textAt, md_textSize, md_lines, md_fileChange, md_fileLines, md_files, md_sets, md_stamp, md_digest, md_in, md_pos, md_stop, md_wrong, md_dep, md_named, md_depCount, md_own, md_refFile, md_full, md_h, md_counts, md_marked, md_namings, md_namingCount, md_listed, md_listedCount, md_listedStamp, md_member, md_text, md_place, md_dead, .ref egA, .ref wyA, .int (nI mm), md_textLines, md_unsure, md_workedRepository, md_workedFile, md_workedStamp, .ref skM, md_before, md_left, md_made, md_madeSize, md_need, md_needs, md_newAt, md_newSize, md_news, md_common, md_keptAs, md_isNew, md_keptFrom, md_stateOf, md_rising])), (wyA, .inl (cZZ, 400, .inr (.inr (.inr (.inr gw))))), (egA, .inl (cZZ, 400, .inr (.inr (.inr (.inr ge))))), (skM, .inl (cI, 400, .inl stu))]) (rx := []) (pl1 := gdA cI cB cZ ((G.wW Wu).wW Wf)) hP hD [] [0, 1, 2, 3] rfl rfl (by decide) (by decide) hk1 hFc hP1 hD1
        generalize H1 = H at hP hS ⊢
        have hP : va_P (dC, dI) classes (([(md, .inr (12, [md_tape, md_size, md_thrown, md_fault, md_bytes, md_used, md_at, md_length, md_depAt, md_firstChange, md_hashes, md_deps, md_patches, md_sort, md_of, md_fileOf, md_one, md_two, md_nameAt, md_nameSize, md_overAt, md_overCount, md_lineAt, md_lineCount, md_changes, md_overs, md_overTotal, md_lineChange, md_textAt, md_textSize, md_lines, md_fileChange, md_fileLines, md_files, md_sets, md_stamp, md_digest, md_in, md_pos, md_stop, md_wrong, md_dep, md_named, md_depCount, md_own, md_refFile, md_full, md_h, md_counts, md_marked, md_namings, md_namingCount, md_listed, md_listedCount, md_listedStamp, md_member, md_text, md_place, md_dead, .ref egA, .ref wyA, .int (nI mm), md_textLines, md_unsure, md_workedRepository, md_workedFile, md_workedStamp, .ref skM, md_before, md_left, md_made, md_madeSize, md_need, md_needs, md_newAt, md_newSize, md_news, md_common, md_keptAs, md_isNew, md_keptFrom, md_stateOf, md_rising])), (wyA, .inl (cZZ, 400, .inr (.inr (.inr (.inr gw))))), (egA, .inl (cZZ, 400, .inr (.inr (.inr (.inr ge))))), (skM, .inl (cI, 400, .inl stu))] : va_W) ++ gdA cI cB cZ ((G.wW Wu).wW Wf)) H := hP
        have hD : va_D A (([(md, .inr (12, [md_tape, md_size, md_thrown, md_fault, md_bytes, md_used, md_at, md_length, md_depAt, md_firstChange, md_hashes, md_deps, md_patches, md_sort, md_of, md_fileOf, md_one, md_two, md_nameAt, md_nameSize, md_overAt, md_overCount, md_lineAt, md_lineCount, md_changes, md_overs, md_overTotal, md_lineChange, md_textAt, md_textSize, md_lines, md_fileChange, md_fileLines, md_files, md_sets, md_stamp, md_digest, md_in, md_pos, md_stop, md_wrong, md_dep, md_named, md_depCount, md_own, md_refFile, md_full, md_h, md_counts, md_marked, md_namings, md_namingCount, md_listed, md_listedCount, md_listedStamp, md_member, md_text, md_place, md_dead, .ref egA, .ref wyA, .int (nI mm), md_textLines, md_unsure, md_workedRepository, md_workedFile, md_workedStamp, .ref skM, md_before, md_left, md_made, md_madeSize, md_need, md_needs, md_newAt, md_newSize, md_news, md_common, md_keptAs, md_isNew, md_keptFrom, md_stateOf, md_rising])), (wyA, .inl (cZZ, 400, .inr (.inr (.inr (.inr gw))))), (egA, .inl (cZZ, 400, .inr (.inr (.inr (.inr ge))))), (skM, .inl (cI, 400, .inl stu))] : va_W) ++ gdA cI cB cZ ((G.wW Wu).wW Wf)) := hD
        refine lv_iconst (v := 0) hx hb d_Md_ways_27 (by decide) ?_
        refine lv_istore_n (lv' := [(3, .int 0), (2, .ref (G.aw aq)), (0, .ref md), (1, .int (nI aq))]) hx hb d_Md_ways_28 rfl hl (by decide) rfl (fun ls hl => ?_)
        refine lv_aload_n hx hb d_Md_ways_29 rfl (lv_at hl 2 rfl) ?_
        refine va_get (D := (dC, dI)) (ci := 12) (v := .ref skM) (C := R_Md) (T := F_Md) (N := 83) hx hb hts i_Md hown hK hP 0 rfl rfl 67 (by decide) (hts _ gw_1485) (fun _ h9 => h9) rfl d_Md_ways_30 ?_
        refine lv_iload_n hx hb d_Md_ways_33 rfl (lv_at hl 0 rfl) ?_
        refine lv_iinc (v := nI 1) (lv' := [(3, .int (nI 1)), (2, .ref (G.aw aq)), (0, .ref md), (1, .int (nI aq))]) hx hb d_Md_ways_34 hl (k := 0) rfl (by exact rfl) (by decide) rfl (fun ls hl => ?_)
        refine lv_iload_n hx hb d_Md_ways_37 rfl (lv_at hl 3 rfl) ?_
        refine va_iast hx hb hK hP hD hS 3 0 rfl rfl (vp_in_nI (n := 0) (by omega) (by omega)) d_Md_ways_38 (fun H locs hP hD hS => ?_)
        rw [show (0 : Int32).toNatClampNeg = 0 from rfl] at hP hD
        have hP : va_P (dC, dI) classes (([(md, .inr (12, [md_tape, md_size, md_thrown, md_fault, md_bytes, md_used, md_at, md_length, md_depAt, md_firstChange, md_hashes, md_deps, md_patches, md_sort, md_of, md_fileOf, md_one, md_two, md_nameAt, md_nameSize, md_overAt, md_overCount, md_lineAt, md_lineCount, md_changes, md_overs, md_overTotal, md_lineChange, md_textAt, md_textSize, md_lines, md_fileChange, md_fileLines, md_files, md_sets, md_stamp, md_digest, md_in, md_pos, md_stop, md_wrong, md_dep, md_named, md_depCount, md_own, md_refFile, md_full, md_h, md_counts, md_marked, md_namings, md_namingCount, md_listed, md_listedCount, md_listedStamp, md_member, md_text, md_place, md_dead, .ref egA, .ref wyA, .int (nI mm), md_textLines, md_unsure, md_workedRepository, md_workedFile, md_workedStamp, .ref skM, md_before, md_left, md_made, md_madeSize, md_need, md_needs, md_newAt, md_newSize, md_news, md_common, md_keptAs, md_isNew, md_keptFrom, md_stateOf, md_rising])), (wyA, .inl (cZZ, 400, .inr (.inr (.inr (.inr gw))))), (egA, .inl (cZZ, 400, .inr (.inr (.inr (.inr ge))))), (skM, .inl (cI, 400, .inl (upd stu 0 (nI aq))))] : va_W) ++ gdA cI cB cZ ((G.wW Wu).wW Wf)) H := hP
        have hD : va_D A (([(md, .inr (12, [md_tape, md_size, md_thrown, md_fault, md_bytes, md_used, md_at, md_length, md_depAt, md_firstChange, md_hashes, md_deps, md_patches, md_sort, md_of, md_fileOf, md_one, md_two, md_nameAt, md_nameSize, md_overAt, md_overCount, md_lineAt, md_lineCount, md_changes, md_overs, md_overTotal, md_lineChange, md_textAt, md_textSize, md_lines, md_fileChange, md_fileLines, md_files, md_sets, md_stamp, md_digest, md_in, md_pos, md_stop, md_wrong, md_dep, md_named, md_depCount, md_own, md_refFile, md_full, md_h, md_counts, md_marked, md_namings, md_namingCount, md_listed, md_listedCount, md_listedStamp, md_member, md_text, md_place, md_dead, .ref egA, .ref wyA, .int (nI mm), md_textLines, md_unsure, md_workedRepository, md_workedFile, md_workedStamp, .ref skM, md_before, md_left, md_made, md_madeSize, md_need, md_needs, md_newAt, md_newSize, md_news, md_common, md_keptAs, md_isNew, md_keptFrom, md_stateOf, md_rising])), (wyA, .inl (cZZ, 400, .inr (.inr (.inr (.inr gw))))), (egA, .inl (cZZ, 400, .inr (.inr (.inr (.inr ge))))), (skM, .inl (cI, 400, .inl (upd stu 0 (nI aq))))] : va_W) ++ gdA cI cB cZ ((G.wW Wu).wW Wf)) := hD
        have loop_39 : ∀ (n9 : Nat) (Wv : Nat → Nat → Int32) (stv : Nat → Int32) (Sk : List Nat) (sk : Nat) (H : Heap) (locs : List Loc) (ls : Array Slot), 2 * (mm - cnt (wb (Wv aq)) mm) + sk < n9 → (wyI Qr mm aq mm 0 (Wv aq) Sk) → (sk = Sk.length) → (sk ≤ cnt (wb (Wv aq)) mm + 1) → (sk ≤ mm) → (arrL stv Sk) → (∀ x, ¬ x = aq → Wv x = Wu x) → va_P (dC, dI) classes (([(md, .inr (12, [md_tape, md_size, md_thrown, md_fault, md_bytes, md_used, md_at, md_length, md_depAt, md_firstChange, md_hashes, md_deps, md_patches, md_sort, md_of, md_fileOf, md_one, md_two, md_nameAt, md_nameSize, md_overAt, md_overCount, md_lineAt, md_lineCount, md_changes, md_overs, md_overTotal, md_lineChange, md_textAt, md_textSize, md_lines, md_fileChange, md_fileLines, md_files, md_sets, md_stamp, md_digest, md_in, md_pos, md_stop, md_wrong, md_dep, md_named, md_depCount, md_own, md_refFile, md_full, md_h, md_counts, md_marked, md_namings, md_namingCount, md_listed, md_listedCount, md_listedStamp, md_member, md_text, md_place, md_dead, .ref egA, .ref wyA, .int (nI mm), md_textLines, md_unsure, md_workedRepository, md_workedFile, md_workedStamp, .ref skM, md_before, md_left, md_made, md_madeSize, md_need, md_needs, md_newAt, md_newSize, md_news, md_common, md_keptAs, md_isNew, md_keptFrom, md_stateOf, md_rising])), (wyA, .inl (cZZ, 400, .inr (.inr (.inr (.inr gw))))), (egA, .inl (cZZ, 400, .inr (.inr (.inr (.inr ge))))), (skM, .inl (cI, 400, .inl stv))] : va_W) ++ gdA cI cB cZ (G.wW Wv)) H → va_D A (([(md, .inr (12, [md_tape, md_size, md_thrown, md_fault, md_bytes, md_used, md_at, md_length, md_depAt, md_firstChange, md_hashes, md_deps, md_patches, md_sort, md_of, md_fileOf, md_one, md_two, md_nameAt, md_nameSize, md_overAt, md_overCount, md_lineAt, md_lineCount, md_changes, md_overs, md_overTotal, md_lineChange, md_textAt, md_textSize, md_lines, md_fileChange, md_fileLines, md_files, md_sets, md_stamp, md_digest, md_in, md_pos, md_stop, md_wrong, md_dep, md_named, md_depCount, md_own, md_refFile, md_full, md_h, md_counts, md_marked, md_namings, md_namingCount, md_listed, md_listedCount, md_listedStamp, md_member, md_text, md_place, md_dead, .ref egA, .ref wyA, .int (nI mm), md_textLines, md_unsure, md_workedRepository, md_workedFile, md_workedStamp, .ref skM, md_before, md_left, md_made, md_madeSize, md_need, md_needs, md_newAt, md_newSize, md_news, md_common, md_keptAs, md_isNew, md_keptFrom, md_stateOf, md_rising])), (wyA, .inl (cZZ, 400, .inr (.inr (.inr (.inr gw))))), (egA, .inl (cZZ, 400, .inr (.inr (.inr (.inr ge))))), (skM, .inl (cI, 400, .inl stv))] : va_W) ++ gdA cI cB cZ (G.wW Wv)) → va_S A s.heap H locs → lv_has ls 6 [(0, .ref md), (1, .int (nI aq)), (2, .ref (G.aw aq)), (3, .int (nI sk))] → W p l e (headSpec ws_Md_ways ({ frames := 2, cells := 0, slots := 0, locals := 140 })).room s m ([.ref md] : List Value).toArray below meth c H locs 0 0 Q (F0 m 39 ls []) := by
          intro n9
          induction n9 with
          | zero => intro Wv stv Sk sk H locs ls hm; exact absurd hm (Nat.not_lt_zero _)
          | succ n9 ih_39 =>
            intro Wv stv Sk sk H locs ls hm hwy hsk hSn hSm hsa hoW hP hD hS hl
            have hcm := cnt_le (wb (Wv aq)) mm
            refine lv_iload_n hx hb d_Md_ways_39 rfl (lv_at hl 3 rfl) ?_
            refine lv_if_le (tgt := 114) hx hb d_Md_ways_40 (by decide) (fun c_40 => ?_) (fun c_40 => ?_)
            · have n_40 : sk ≤ 0 := (nI_leI (a := sk) (b := 0) (by omega) (by omega)).mp c_40
              have hSe : Sk = [] := List.length_eq_zero_iff.mp (by omega)
              have hend : wyI Qr mm aq mm 0 (Wv aq) [] := hSe ▸ hwy
              refine lv_iinc (v := nI (aq + 1)) (lv' := [(1, .int (nI (aq + 1))), (0, .ref md), (2, .ref (G.aw aq)), (3, .int (nI sk))]) hx hb d_Md_ways_114 hl (k := 1) rfl (by exact nI_add _ _) (by decide) rfl (fun ls hl => ?_)
              refine lv_goto (tgt := 2) hx hb d_Md_ways_117 (by decide) ?_
              exact ih_2 (aq + 1) Wv stv _ _ _ (by omega) (by omega) (fun x y h1 h2 => if e9 : x = aq then by rw [e9]; exact hend.end_ n_7 h2 else by rw [hoW x e9]; exact hWu x y (by omega) h2) hP hD hS (lv_sub hl [1, 0] rfl)
            · have n_40 : 0 < sk := Nat.lt_of_not_le (fun z => c_40 ((nI_leI (a := sk) (b := 0) (by omega) (by omega)).mpr z))
              obtain ⟨S1, vq, hSe⟩ := last_of (show 0 < Sk.length by omega)
              have hSl : sk = S1.length + 1 := by rw [hsk, hSe, List.length_append]; rfl
              have hpo := wyI.pop (hSe ▸ hwy)
              have hvn := hpo.2.1
              have hla := arrL.last (hSe ▸ hsa)
              refine lv_aload_n hx hb d_Md_ways_43 rfl (lv_at hl 0 rfl) ?_
              refine va_get (D := (dC, dI)) (ci := 12) (v := .ref egA) (C := R_Md) (T := F_Md) (N := 83) hx hb hts i_Md hown hK hP 0 rfl rfl 59 (by decide) (hts _ gw_1477) (fun _ h9 => h9) rfl d_Md_ways_44 ?_
              refine lv_aload_n hx hb d_Md_ways_47 rfl (lv_at hl 0 rfl) ?_
              refine va_get (D := (dC, dI)) (ci := 12) (v := .ref skM) (C := R_Md) (T := F_Md) (N := 83) hx hb hts i_Md hown hK hP 0 rfl rfl 67 (by decide) (hts _ gw_1485) (fun _ h9 => h9) rfl d_Md_ways_48 ?_
              refine lv_iinc (v := nI S1.length) (lv' := [(3, .int (nI S1.length)), (0, .ref md), (1, .int (nI aq)), (2, .ref (G.aw aq))]) hx hb d_Md_ways_51 hl (k := 3) rfl (by rw [hSl, show Int32.ofInt (-1) = -1 from by decide, ← Int32.sub_eq_add_neg]; exact nI_subN (a := S1.length + 1) (b := 1) (by omega)) (by decide) rfl (fun ls hl => ?_)
              refine lv_iload_n hx hb d_Md_ways_54 rfl (lv_at hl 0 rfl) ?_
              refine va_iald hx hb hK hP 3 0 rfl rfl (vp_in_nI (by omega) (by omega)) d_Md_ways_55 ?_
              rw [show (nI S1.length).toNatClampNeg = S1.length from nI_clamp (by omega)]
              refine lv_topi (fun x_1 ex_1 => ?_)
              obtain rfl : x_1 = nI vq := by rw [ex_1]; first | done | (exact hla.1)
              refine xq_ald hx hb hK hP 2 6 rfl rfl (y := (G.ae vq)) (vp_in_nI (by omega) (by omega)) (by rw [show (nI vq).toNatClampNeg = vq from nI_clamp (by omega)]; exact hge _ (by omega)) d_Md_ways_56 ?_
              refine lv_astore (lv' := [(4, .ref (G.ae vq)), (3, .int (nI S1.length)), (0, .ref md), (1, .int (nI aq)), (2, .ref (G.aw aq))]) hx hb d_Md_ways_57 hl (by decide) rfl (fun ls hl => ?_)
              refine lv_iconst (v := 0) hx hb d_Md_ways_59 (by decide) ?_
              refine lv_istore (lv' := [(5, .int 0), (4, .ref (G.ae vq)), (3, .int (nI S1.length)), (0, .ref md), (1, .int (nI aq)), (2, .ref (G.aw aq))]) hx hb d_Md_ways_60 hl (by decide) rfl (fun ls hl => ?_)
              have loop_62 : ∀ (n8 : Nat) (bq : Nat) (Wx : Nat → Nat → Int32) (stx : Nat → Int32) (Tk : List Nat) (tk : Nat) (H : Heap) (locs : List Loc) (ls : Array Slot), mm - bq < n8 → (bq ≤ mm) → (wyI Qr mm aq vq bq (Wx aq) Tk) → (tk = Tk.length) → (vsd aq (Wx aq) vq) → (tk ≤ cnt (wb (Wx aq)) mm) → (arrL stx Tk) → (∀ x, ¬ x = aq → Wx x = Wu x) → (2 * (mm - cnt (wb (Wx aq)) mm) + tk < n9) → va_P (dC, dI) classes (([(md, .inr (12, [md_tape, md_size, md_thrown, md_fault, md_bytes, md_used, md_at, md_length, md_depAt, md_firstChange, md_hashes, md_deps, md_patches, md_sort, md_of, md_fileOf, md_one, md_two, md_nameAt, md_nameSize, md_overAt, md_overCount, md_lineAt, md_lineCount, md_changes, md_overs, md_overTotal, md_lineChange, md_textAt, md_textSize, md_lines, md_fileChange, md_fileLines, md_files, md_sets, md_stamp, md_digest, md_in, md_pos, md_stop, md_wrong, md_dep, md_named, md_depCount, md_own, md_refFile, md_full, md_h, md_counts, md_marked, md_namings, md_namingCount, md_listed, md_listedCount, md_listedStamp, md_member, md_text, md_place, md_dead, .ref egA, .ref wyA, .int (nI mm), md_textLines, md_unsure, md_workedRepository, md_workedFile, md_workedStamp, .ref skM, md_before, md_left, md_made, md_madeSize, md_need, md_needs, md_newAt, md_newSize, md_news, md_common, md_keptAs, md_isNew, md_keptFrom, md_stateOf, md_rising])), (wyA, .inl (cZZ, 400, .inr (.inr (.inr (.inr gw))))), (egA, .inl (cZZ, 400, .inr (.inr (.inr (.inr ge))))), (skM, .inl (cI, 400, .inl stx))] : va_W) ++ gdA cI cB cZ (G.wW Wx)) H → va_D A (([(md, .inr (12, [md_tape, md_size, md_thrown, md_fault, md_bytes, md_used, md_at, md_length, md_depAt, md_firstChange, md_hashes, md_deps, md_patches, md_sort, md_of, md_fileOf, md_one, md_two, md_nameAt, md_nameSize, md_overAt, md_overCount, md_lineAt, md_lineCount, md_changes, md_overs, md_overTotal, md_lineChange, md_textAt, md_textSize, md_lines, md_fileChange, md_fileLines, md_files, md_sets, md_stamp, md_digest, md_in, md_pos, md_stop, md_wrong, md_dep, md_named, md_depCount, md_own, md_refFile, md_full, md_h, md_counts, md_marked, md_namings, md_namingCount, md_listed, md_listedCount, md_listedStamp, md_member, md_text, md_place, md_dead, .ref egA, .ref wyA, .int (nI mm), md_textLines, md_unsure, md_workedRepository, md_workedFile, md_workedStamp, .ref skM, md_before, md_left, md_made, md_madeSize, md_need, md_needs, md_newAt, md_newSize, md_news, md_common, md_keptAs, md_isNew, md_keptFrom, md_stateOf, md_rising])), (wyA, .inl (cZZ, 400, .inr (.inr (.inr (.inr gw))))), (egA, .inl (cZZ, 400, .inr (.inr (.inr (.inr ge))))), (skM, .inl (cI, 400, .inl stx))] : va_W) ++ gdA cI cB cZ (G.wW Wx)) → va_S A s.heap H locs → lv_has ls 6 [(0, .ref md), (1, .int (nI aq)), (2, .ref (G.aw aq)), (3, .int (nI tk)), (4, .ref (G.ae vq)), (5, .int (nI bq))] → W p l e (headSpec ws_Md_ways ({ frames := 2, cells := 0, slots := 0, locals := 140 })).room s m ([.ref md] : List Value).toArray below meth c H locs 0 0 Q (F0 m 62 ls []) := by
                intro n8
                induction n8 with
                | zero => intro bq Wx stx Tk tk H locs ls hm; exact absurd hm (Nat.not_lt_zero _)
                | succ n8 ih_62 =>
                  intro bq Wx stx Tk tk H locs ls hm hbq hwx htk hvv hTn hsx hoX hmx hP hD hS hl
                  have hcx := cnt_le (wb (Wx aq)) mm
                  refine lv_iload hx hb d_Md_ways_62 (lv_at hl 5 rfl) ?_
                  refine lv_aload_n hx hb d_Md_ways_64 rfl (lv_at hl 0 rfl) ?_
                  refine va_get (D := (dC, dI)) (ci := 12) (v := .int (nI mm)) (C := R_Md) (T := F_Md) (N := 83) hx hb hts i_Md hown hK hP 0 rfl rfl 61 (by decide) (hts _ gw_1479) (fun _ h9 => h9) rfl d_Md_ways_65 ?_
                  refine lv_icmp_ge (tgt := 111) hx hb d_Md_ways_68 (by decide) (fun c_68 => ?_) (fun c_68 => ?_)
                  · have n_68 : mm ≤ bq := (nI_leI (a := mm) (b := bq) (by omega) (by omega)).mp c_68
                    have hbe : bq = mm := by omega
                    have hdone : wyI Qr mm aq mm 0 (Wx aq) Tk := (hbe ▸ hwx : wyI Qr mm aq vq mm (Wx aq) Tk).done
                    refine lv_goto (tgt := 39) hx hb d_Md_ways_111 (by decide) ?_
                    exact ih_39 Wx stx Tk tk _ _ _ (by omega) (hdone) (htk) (by omega) (by omega) (hsx) (hoX) hP hD hS (lv_sub hl [0, 1, 2, 3] rfl)
                  · have n_68 : bq < mm := Nat.lt_of_not_le (fun z => c_68 ((nI_leI (a := mm) (b := bq) (by omega) (by omega)).mpr z))
                    refine lv_aload hx hb d_Md_ways_71 (lv_at hl 4 rfl) ?_
                    refine lv_iload hx hb d_Md_ways_73 (lv_at hl 5 rfl) ?_
                    refine va_zald hx hb hK hP (4 + (vq)) 3 (gA_E rfl (by omega)) rfl (vp_in_nI (by omega) (by omega)) d_Md_ways_75 ?_
                    rw [show (nI bq).toNatClampNeg = bq from nI_clamp (by omega)]
                    refine lv_topi (fun x_2 ex_2 => ?_)
                    obtain rfl : x_2 = G.E vq bq := by rw [ex_2]; first | done | (exact rfl)
                    refine lv_if_eq (tgt := 105) hx hb d_Md_ways_76 (by decide) (fun c_76 => ?_) (fun c_76 => ?_)
                    · have hQ0 : ¬ Qr vq bq := (hEQ vq bq hvn n_68).elim (fun z => absurd (z.1.symm.trans c_76) (by decide)) (fun z => z.2)
                      refine lv_iinc (v := nI (bq + 1)) (lv' := [(5, .int (nI (bq + 1))), (0, .ref md), (1, .int (nI aq)), (2, .ref (G.aw aq)), (3, .int (nI tk)), (4, .ref (G.ae vq))]) hx hb d_Md_ways_105 hl (k := 5) rfl (by exact nI_add _ _) (by decide) rfl (fun ls hl => ?_)
                      refine lv_goto (tgt := 62) hx hb d_Md_ways_108 (by decide) ?_
                      exact ih_62 (bq + 1) Wx stx Tk tk _ _ _ (by omega) (by omega) (hwx.pass (fun z => absurd z hQ0)) (htk) (hvv) (hTn) (hsx) (hoX) (hmx) hP hD hS (lv_sub hl [1, 2, 3, 4, 5, 0] rfl)
                    · have hQ1 : Qr vq bq := (hEQ vq bq hvn n_68).elim (fun z => z.2) (fun z => absurd z.1 c_76)
                      refine lv_aload_n hx hb d_Md_ways_79 rfl (lv_at hl 2 rfl) ?_
                      refine lv_iload hx hb d_Md_ways_80 (lv_at hl 5 rfl) ?_
                      refine va_zald hx hb hK hP (4 + (400 + aq)) 3 (gA_W rfl (by omega)) rfl (vp_in_nI (by omega) (by omega)) d_Md_ways_82 ?_
                      rw [show (nI bq).toNatClampNeg = bq from nI_clamp (by omega)]
                      refine lv_topi (fun x_3 ex_3 => ?_)
                      obtain rfl : x_3 = Wx aq bq := by rw [ex_3]; first | done | (exact rfl)
                      refine lv_if_eq (tgt := 89) hx hb d_Md_ways_83 (by decide) (fun c_83 => ?_) (fun c_83 => ?_)
                      · have hci := wb_in c_83 n_68
                        have hcj := cnt_le (wb (upd (Wx aq) bq 1)) mm
                        refine lv_aload_n hx hb d_Md_ways_89 rfl (lv_at hl 2 rfl) ?_
                        refine lv_iload hx hb d_Md_ways_90 (lv_at hl 5 rfl) ?_
                        refine lv_iconst (v := 1) hx hb d_Md_ways_92 (by decide) ?_
                        refine va_zast hx hb hK hP hD hS (4 + (400 + aq)) 3 (gA_W rfl (by omega)) rfl (vp_in_nI (by omega) (by omega)) d_Md_ways_93 (fun H locs hP hD hS => ?_)
                        rw [show (nI bq).toNatClampNeg = bq from nI_clamp (by omega)] at hP hD
                        rw [show vp_nar .boolean 1 = 1 from rfl] at hP hD
                        rw [gA_sW (X := [(md, .inr (12, [md_tape, md_size, md_thrown, md_fault, md_bytes, md_used, md_at, md_length, md_depAt, md_firstChange, md_hashes, md_deps, md_patches, md_sort, md_of, md_fileOf, md_one, md_two, md_nameAt, md_nameSize, md_overAt, md_overCount, md_lineAt, md_lineCount, md_changes, md_overs, md_overTotal, md_lineChange, md_textAt, md_textSize, md_lines, md_fileChange, md_fileLines, md_files, md_sets, md_stamp, md_digest, md_in, md_pos, md_stop, md_wrong, md_dep, md_named, md_depCount, md_own, md_refFile, md_full, md_h, md_counts, md_marked, md_namings, md_namingCount, md_listed, md_listedCount, md_listedStamp, md_member, md_text, md_place, md_dead, .ref egA, .ref wyA, .int (nI mm), md_textLines, md_unsure, md_workedRepository, md_workedFile, md_workedStamp, .ref skM, md_before, md_left, md_made, md_madeSize, md_need, md_needs, md_newAt, md_newSize, md_news, md_common, md_keptAs, md_isNew, md_keptFrom, md_stateOf, md_rising])), (wyA, .inl (cZZ, 400, .inr (.inr (.inr (.inr gw))))), (egA, .inl (cZZ, 400, .inr (.inr (.inr (.inr ge))))), (skM, .inl (cI, 400, .inl stx))]) (n := 4) (i := aq) rfl (by omega)] at hP hD
                        have hP : va_P (dC, dI) classes (([(md, .inr (12, [md_tape, md_size, md_thrown, md_fault, md_bytes, md_used, md_at, md_length, md_depAt, md_firstChange, md_hashes, md_deps, md_patches, md_sort, md_of, md_fileOf, md_one, md_two, md_nameAt, md_nameSize, md_overAt, md_overCount, md_lineAt, md_lineCount, md_changes, md_overs, md_overTotal, md_lineChange, md_textAt, md_textSize, md_lines, md_fileChange, md_fileLines, md_files, md_sets, md_stamp, md_digest, md_in, md_pos, md_stop, md_wrong, md_dep, md_named, md_depCount, md_own, md_refFile, md_full, md_h, md_counts, md_marked, md_namings, md_namingCount, md_listed, md_listedCount, md_listedStamp, md_member, md_text, md_place, md_dead, .ref egA, .ref wyA, .int (nI mm), md_textLines, md_unsure, md_workedRepository, md_workedFile, md_workedStamp, .ref skM, md_before, md_left, md_made, md_madeSize, md_need, md_needs, md_newAt, md_newSize, md_news, md_common, md_keptAs, md_isNew, md_keptFrom, md_stateOf, md_rising])), (wyA, .inl (cZZ, 400, .inr (.inr (.inr (.inr gw))))), (egA, .inl (cZZ, 400, .inr (.inr (.inr (.inr ge))))), (skM, .inl (cI, 400, .inl stx))] : va_W) ++ gdA cI cB cZ ((G.wW Wx).sW aq (upd ((G.wW Wx).W aq) bq 1))) H := hP
                        have hD : va_D A (([(md, .inr (12, [md_tape, md_size, md_thrown, md_fault, md_bytes, md_used, md_at, md_length, md_depAt, md_firstChange, md_hashes, md_deps, md_patches, md_sort, md_of, md_fileOf, md_one, md_two, md_nameAt, md_nameSize, md_overAt, md_overCount, md_lineAt, md_lineCount, md_changes, md_overs, md_overTotal, md_lineChange, md_textAt, md_textSize, md_lines, md_fileChange, md_fileLines, md_files, md_sets, md_stamp, md_digest, md_in, md_pos, md_stop, md_wrong, md_dep, md_named, md_depCount, md_own, md_refFile, md_full, md_h, md_counts, md_marked, md_namings, md_namingCount, md_listed, md_listedCount, md_listedStamp, md_member, md_text, md_place, md_dead, .ref egA, .ref wyA, .int (nI mm), md_textLines, md_unsure, md_workedRepository, md_workedFile, md_workedStamp, .ref skM, md_before, md_left, md_made, md_madeSize, md_need, md_needs, md_newAt, md_newSize, md_news, md_common, md_keptAs, md_isNew, md_keptFrom, md_stateOf, md_rising])), (wyA, .inl (cZZ, 400, .inr (.inr (.inr (.inr gw))))), (egA, .inl (cZZ, 400, .inr (.inr (.inr (.inr ge))))), (skM, .inl (cI, 400, .inl stx))] : va_W) ++ gdA cI cB cZ ((G.wW Wx).sW aq (upd ((G.wW Wx).W aq) bq 1))) := hD
                        refine lv_aload_n hx hb d_Md_ways_94 rfl (lv_at hl 0 rfl) ?_
                        refine va_get (D := (dC, dI)) (ci := 12) (v := .ref skM) (C := R_Md) (T := F_Md) (N := 83) hx hb hts i_Md hown hK hP 0 rfl rfl 67 (by decide) (hts _ gw_1485) (fun _ h9 => h9) rfl d_Md_ways_95 ?_
                        refine lv_iload_n hx hb d_Md_ways_98 rfl (lv_at hl 3 rfl) ?_
                        refine lv_iinc (v := nI (tk + 1)) (lv' := [(3, .int (nI (tk + 1))), (0, .ref md), (1, .int (nI aq)), (2, .ref (G.aw aq)), (4, .ref (G.ae vq)), (5, .int (nI bq))]) hx hb d_Md_ways_99 hl (k := 3) rfl (by exact nI_add _ _) (by decide) rfl (fun ls hl => ?_)
                        refine lv_iload hx hb d_Md_ways_102 (lv_at hl 5 rfl) ?_
                        refine va_iast hx hb hK hP hD hS 3 0 rfl rfl (vp_in_nI (by omega) (by omega)) d_Md_ways_104 (fun H locs hP hD hS => ?_)
                        rw [show (nI tk).toNatClampNeg = tk from nI_clamp (by omega)] at hP hD
                        have hP : va_P (dC, dI) classes (([(md, .inr (12, [md_tape, md_size, md_thrown, md_fault, md_bytes, md_used, md_at, md_length, md_depAt, md_firstChange, md_hashes, md_deps, md_patches, md_sort, md_of, md_fileOf, md_one, md_two, md_nameAt, md_nameSize, md_overAt, md_overCount, md_lineAt, md_lineCount, md_changes, md_overs, md_overTotal, md_lineChange, md_textAt, md_textSize, md_lines, md_fileChange, md_fileLines, md_files, md_sets, md_stamp, md_digest, md_in, md_pos, md_stop, md_wrong, md_dep, md_named, md_depCount, md_own, md_refFile, md_full, md_h, md_counts, md_marked, md_namings, md_namingCount, md_listed, md_listedCount, md_listedStamp, md_member, md_text, md_place, md_dead, .ref egA, .ref wyA, .int (nI mm), md_textLines, md_unsure, md_workedRepository, md_workedFile, md_workedStamp, .ref skM, md_before, md_left, md_made, md_madeSize, md_need, md_needs, md_newAt, md_newSize, md_news, md_common, md_keptAs, md_isNew, md_keptFrom, md_stateOf, md_rising])), (wyA, .inl (cZZ, 400, .inr (.inr (.inr (.inr gw))))), (egA, .inl (cZZ, 400, .inr (.inr (.inr (.inr ge))))), (skM, .inl (cI, 400, .inl (upd stx tk (nI bq))))] : va_W) ++ gdA cI cB cZ ((G.wW Wx).sW aq (upd ((G.wW Wx).W aq) bq 1))) H := hP
                        have hD : va_D A (([(md, .inr (12, [md_tape, md_size, md_thrown, md_fault, md_bytes, md_used, md_at, md_length, md_depAt, md_firstChange, md_hashes, md_deps, md_patches, md_sort, md_of, md_fileOf, md_one, md_two, md_nameAt, md_nameSize, md_overAt, md_overCount, md_lineAt, md_lineCount, md_changes, md_overs, md_overTotal, md_lineChange, md_textAt, md_textSize, md_lines, md_fileChange, md_fileLines, md_files, md_sets, md_stamp, md_digest, md_in, md_pos, md_stop, md_wrong, md_dep, md_named, md_depCount, md_own, md_refFile, md_full, md_h, md_counts, md_marked, md_namings, md_namingCount, md_listed, md_listedCount, md_listedStamp, md_member, md_text, md_place, md_dead, .ref egA, .ref wyA, .int (nI mm), md_textLines, md_unsure, md_workedRepository, md_workedFile, md_workedStamp, .ref skM, md_before, md_left, md_made, md_madeSize, md_need, md_needs, md_newAt, md_newSize, md_news, md_common, md_keptAs, md_isNew, md_keptFrom, md_stateOf, md_rising])), (wyA, .inl (cZZ, 400, .inr (.inr (.inr (.inr gw))))), (egA, .inl (cZZ, 400, .inr (.inr (.inr (.inr ge))))), (skM, .inl (cI, 400, .inl (upd stx tk (nI bq))))] : va_W) ++ gdA cI cB cZ ((G.wW Wx).sW aq (upd ((G.wW Wx).W aq) bq 1))) := hD
                        refine lv_iinc (v := nI (bq + 1)) (lv' := [(5, .int (nI (bq + 1))), (3, .int (nI (tk + 1))), (0, .ref md), (1, .int (nI aq)), (2, .ref (G.aw aq)), (4, .ref (G.ae vq))]) hx hb d_Md_ways_105 hl (k := 5) rfl (by exact nI_add _ _) (by decide) rfl (fun ls hl => ?_)
                        refine lv_goto (tgt := 62) hx hb d_Md_ways_108 (by decide) ?_
                        exact ih_62 (bq + 1) (va_up Wx aq (upd (Wx aq) bq 1)) (upd stx tk (nI bq)) (Tk ++ [bq]) (tk + 1) _ _ _ (by omega) (by omega) (by rw [va_up_self]; exact hwx.push hvv hvn n_68 hQ1) (by rw [List.length_append, htk]; rfl) (by rw [va_up_self]; exact hvv.up) (by rw [va_up_self, hci]; omega) (hsx.pushF _ htk) (fun x z => (va_up_ne _ _ z).trans (hoX x z)) (by rw [va_up_self, hci]; omega) hP hD hS (lv_sub hl [2, 3, 4, 1, 5, 0] rfl)
                      · refine lv_goto (tgt := 105) hx hb d_Md_ways_86 (by decide) ?_
                        refine lv_iinc (v := nI (bq + 1)) (lv' := [(5, .int (nI (bq + 1))), (0, .ref md), (1, .int (nI aq)), (2, .ref (G.aw aq)), (3, .int (nI tk)), (4, .ref (G.ae vq))]) hx hb d_Md_ways_105 hl (k := 5) rfl (by exact nI_add _ _) (by decide) rfl (fun ls hl => ?_)
                        refine lv_goto (tgt := 62) hx hb d_Md_ways_108 (by decide) ?_
                        exact ih_62 (bq + 1) Wx stx Tk tk _ _ _ (by omega) (by omega) (hwx.pass (fun _ => hwx.one n_68 c_83)) (htk) (hvv) (hTn) (hsx) (hoX) (hmx) hP hD hS (lv_sub hl [1, 2, 3, 4, 5, 0] rfl)
              exact loop_62 _ 0 Wv stv S1 S1.length _ _ _ (Nat.lt_succ_self _) (Nat.zero_le _) (hpo.1) (rfl) (hpo.2.2) (by omega) (hla.2) (hoW) (by omega) hP hD hS (lv_sub hl [3, 4, 5, 2, 1, 0] rfl)
        exact loop_39 _ Wf (upd stu 0 (nI aq)) ([aq]) 1 _ _ _ (Nat.lt_succ_self _) (wyI.init hw.1 n_7) (rfl) (Nat.le_add_left _ _) (by omega) (arrL.push aq (arrL.nil _)) (fun x z => hw.2 x z) hP hD hS (lv_sub hl [2, 3, 1, 0] rfl)
  exact loop_2 _ 0 G.W st0 _ _ _ (Nat.lt_succ_self _) (Nat.zero_le _) (fun x y z => absurd z (Nat.not_lt_zero _)) hP hD hS (lv_sub hl [1, 0] rfl)
