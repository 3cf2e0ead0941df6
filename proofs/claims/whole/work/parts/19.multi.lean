section
/-! multianewarray of two dimensions: the outer array, then the rows one by one, each noted in the outer one -/
def xm_row (comp : ClassId) (M : Nat) (dv : Value) : Cell := { cls := comp, slots := Array.replicate M dv, vm := .none }
def xm_o (c : ClassId) (N h : Nat) : Nat → Cell
  | 0 => { cls := c, slots := Array.replicate N .null, vm := .none }
  | i + 1 => (xm_o c N h i).setSlot i (.ref (h + 1 + i))
def xm_f (T : State) (c comp : ClassId) (N M : Nat) (dv : Value) : Nat → State
  | 0 => T.pushCell (xm_o c N T.heap.size 0)
  | i + 1 => ((xm_f T c comp N M dv i).pushCell (xm_row comp M dv)).setCell T.heap.size (xm_o c N T.heap.size (i + 1))
theorem xm_o_is (c : ClassId) (N h i : Nat) : (xm_o c N h i).cls = c ∧ (xm_o c N h i).vm = .none ∧ (xm_o c N h i).slots.size = N ∧ ∀ j, j < N → (xm_o c N h i).slots[j]? = some (if j < i then .ref (h + 1 + j) else .null) := by
  induction i with
  | zero => exact ⟨rfl, rfl, by simp [xm_o], fun j hj => by simp [xm_o, hj]⟩
  | succ i ih =>
    obtain ⟨h1, h2, h3, h4⟩ := ih
    refine ⟨h1, h2, by simp [xm_o, Cell.setSlot, h3], fun j hj => ?_⟩
    have h5 := h4 j hj
    simp only [xm_o, Cell.setSlot, Array.getElem?_setIfInBounds]
    by_cases e : i = j
    · subst e; simp [h3, hj]
    · rw [if_neg e, h5]
      by_cases hlt : j < i
      · rw [if_pos hlt, if_pos (by omega)]
      · rw [if_neg hlt, if_neg (by omega)]
theorem xm_f_is (T : State) (c comp : ClassId) (N M : Nat) (dv : Value) (i : Nat) : (xm_f T c comp N M dv i).heap.size = T.heap.size + 1 + i ∧ (xm_f T c comp N M dv i).heap[T.heap.size]? = some (xm_o c N T.heap.size i) ∧ (xm_f T c comp N M dv i).vm = T.vm ∧ (xm_f T c comp N M dv i).slotsUsed = T.slotsUsed + N + i * M ∧
    (∀ a, a < T.heap.size → (xm_f T c comp N M dv i).heap[a]? = T.heap[a]?) ∧ (∀ j, j < i → (xm_f T c comp N M dv i).heap[T.heap.size + 1 + j]? = some (xm_row comp M dv)) := by
  induction i with
  | zero => exact ⟨by simp [xm_f], by simp [xm_f], rfl, by simp [xm_f, xm_o], fun a ha => State.heap_pushCell_of_lt _ _ ha, fun j hj => absurd hj (Nat.not_lt_zero j)⟩
  | succ i ih =>
    obtain ⟨h1, h2, h3, h4, h5, h6⟩ := ih
    have hlt : T.heap.size < (xm_f T c comp N M dv i).heap.size := by omega
    have hp : ((xm_f T c comp N M dv i).pushCell (xm_row comp M dv)).heap[T.heap.size]? = some (xm_o c N T.heap.size i) := by rw [State.heap_pushCell_of_lt (h := hlt)]; exact h2
    refine ⟨by simp [xm_f, State.setCell, h1]; omega, State.heap_setCell_self hp, by simp [xm_f, h3], by simp [xm_f, h4, xm_row, Nat.succ_mul]; omega, fun a ha => ?_, fun j hj => ?_⟩
    · show (((xm_f T c comp N M dv i).pushCell (xm_row comp M dv)).setCell T.heap.size _).heap[a]? = _
      have hlt2 : a < (xm_f T c comp N M dv i).heap.size := by omega
      rw [State.heap_setCell_other (Nat.ne_of_gt ha), State.heap_pushCell_of_lt (h := hlt2)]
      exact h5 a ha
    · show (((xm_f T c comp N M dv i).pushCell (xm_row comp M dv)).setCell T.heap.size _).heap[T.heap.size + 1 + j]? = _
      rw [State.heap_setCell_other (show T.heap.size ≠ T.heap.size + 1 + j by omega)]
      by_cases e : j < i
      · have hlt2 : T.heap.size + 1 + j < (xm_f T c comp N M dv i).heap.size := by omega
        rw [State.heap_pushCell_of_lt (h := hlt2)]; exact h6 j e
      · rw [show T.heap.size + 1 + j = (xm_f T c comp N M dv i).heap.size by omega]; exact State.heap_pushCell_size _ _
theorem xm_f_top (T : State) (f : JFrame) (c comp : ClassId) (N M : Nat) (dv : Value) (i : Nat) : xm_f (T.setTop f) c comp N M dv i = (xm_f T c comp N M dv i).setTop f := by
  induction i with
  | zero => rfl
  | succ i ih => simp only [xm_f, ih, State.heap_setTop, State.pushCell_setTop, State.setCell_setTop]
section XM1
variable {E : CtlPost} {e : Env} {d : Bool} {acts : List Action} {s : State}
theorem xm_new {c comp : ClassId} {k : Class} {ty : FieldType} {n : Nat} {v : Value} (hk : s.vm.classes[c]? = some k) (hkind : k.kind = .array comp ty) (hl : ¬ n > e.platform.arrayLengthLimit) (hh : ¬ n * componentBytes ty > e.platform.maxHeapBytes) (hfit : fits ty v = true) (hdef : v.isDefault = true)
    (h1 : s.heap.size < e.platform.maxCells) (h2 : s.slotsUsed + n ≤ e.platform.maxSlots) {Q : Addr → Pre} (hq : Q s.heap.size d acts (s.pushCell { cls := c, slots := Array.replicate n v, vm := .none })) : wp (Jvm.newArray c n v) Q E e d acts s := by
  have hf : ∀ i w, (Array.replicate n v)[i]? = some w → s.fitsSlot c .none i w = true := by
    intro i w hw
    rw [Array.getElem?_replicate] at hw
    split at hw
    · cases hw; simp [State.fitsSlot, State.slotType?, hk, hkind, hfit]
    · cases hw
  have ha : allocActs (Array.replicate n v) s.heap.size acts = acts := by
    have : ((Array.replicate n v).all (·.isDefault)) = true := by rw [Array.all_replicate]; split <;> simp [hdef]
    unfold allocActs; rw [if_pos this]
  simp only [Jvm.newArray, Jvm.arrayFits, wp_bind', W.ask, W.ite, hl, if_false, wp_pure', W.theClass, hk, hkind, hh, W.alloc, W.stop, Option.some.injEq, exists_eq_left', Array.size_replicate, ha]
  rw [if_neg (by omega)]
  exact ⟨h1, h2, hf, hq⟩
theorem xm_reff {t : FieldType} (v : Value) (hv : v = .null ∨ ∃ a, v = .ref a) : fits (.array t) v = true := by
  rcases hv with rfl | ⟨a, rfl⟩ <;> rfl
theorem xm_make {c comp cc : ClassId} {k kc : Class} {ty : FieldType} {n m : Int32} (hk : s.vm.classes[c]? = some k) (hkind : k.kind = .array comp (.array ty)) (hkc : s.vm.classes[comp]? = some kc) (hkindc : kc.kind = .array cc ty) (hn : ¬ n < 0) (hm : ¬ m < 0)
    (hl1 : ¬ n.toNatClampNeg > e.platform.arrayLengthLimit) (hh1 : ¬ n.toNatClampNeg * componentBytes (.array ty) > e.platform.maxHeapBytes) (hl2 : ¬ m.toNatClampNeg > e.platform.arrayLengthLimit) (hh2 : ¬ m.toNatClampNeg * componentBytes ty > e.platform.maxHeapBytes)
    (hdf : fits ty (defaultValue ty) = true) (hdd : (defaultValue ty).isDefault = true) (hc : s.heap.size + 1 + n.toNatClampNeg ≤ e.platform.maxCells) (hs : s.slotsUsed + n.toNatClampNeg + n.toNatClampNeg * m.toNatClampNeg ≤ e.platform.maxSlots)
    {Q : Addr → Pre} (hq : ∀ d' acts', Q s.heap.size d' acts' (xm_f s c comp n.toNatClampNeg m.toNatClampNeg (defaultValue ty) n.toNatClampNeg)) : wp (multianewarray.make c [n, m]) Q E e d acts s := by
  have hnone : ([m].find? (· < 0)) = none := by simp [hm]
  rw [multianewarray.make]
  simp only [wp_bind', W.ite, hn, if_false, wp_pure', W.theClass, hk, hkind, Option.some.injEq, exists_eq_left']
  refine xm_new hk hkind hl1 hh1 (xm_reff _ (Or.inl rfl)) rfl (by omega) (by have := Nat.zero_le (n.toNatClampNeg * m.toNatClampNeg); omega) ?_
  simp only [hnone]
  rw [ite_self, wp_bind', Std.Legacy.Range.forIn_eq_forIn_range']
  rw [show ([:n.toNatClampNeg] : Std.Legacy.Range).size = n.toNatClampNeg by simp [Std.Legacy.Range.size]]
  show wp (forIn (List.range' 0 n.toNatClampNeg 1) PUnit.unit _) _ E e d acts _
  generalize hNe : n.toNatClampNeg = N at *
  generalize hMe : m.toNatClampNeg = M at *
  refine wp_forIn_inv (fun rest s' => ∃ i, i ≤ N ∧ rest = List.range' i (N - i) ∧ s' = xm_f s c comp N M (defaultValue ty) i) _ _ ⟨0, Nat.zero_le _, rfl, rfl⟩ ?_ ?_
  · rintro x rest s' d' acts' Q₇ ⟨i, hi, hl, rfl⟩ hnext
    have hlt : i < N := by
      rcases Nat.lt_or_ge i N with h | h
      · exact h
      · rw [show N - i = 0 by omega] at hl; simp at hl
    rw [show N - i = (N - (i + 1)) + 1 by omega, List.range'_succ] at hl
    obtain ⟨rfl, hrest⟩ := List.cons.inj hl
    obtain ⟨f1, f2, f3, f4, f5, f6⟩ := xm_f_is s c comp N M (defaultValue ty) x
    obtain ⟨o1, o2, o3, o4⟩ := xm_o_is c N s.heap.size x
    have hmul : x * M + M ≤ N * M := by
      have := Nat.mul_le_mul_right M (show x + 1 ≤ N from hlt)
      rw [Nat.succ_mul] at this; exact this
    simp only [wp_bind']
    rw [multianewarray.make]
    simp only [wp_bind', W.ite, hm, if_false, wp_pure', W.theClass, f3, hkc, hkindc, Option.some.injEq, exists_eq_left', hMe]
    refine xm_new (by rw [f3]; exact hkc) hkindc hl2 hh2 hdf hdd (by rw [f1]; omega) (by rw [f4]; omega) ?_
    simp only [wp_bind', W.writeLoc, wp_pure']
    have hlt2 : s.heap.size < (xm_f s c comp N M (defaultValue ty) x).heap.size := by omega
    refine ⟨xm_o c N s.heap.size x, by rw [State.heap_pushCell_of_lt (h := hlt2)]; exact f2, by rw [o2]; simp, by rw [o3]; exact hlt, ?_, hnext _ _ _ ⟨x + 1, hlt, hrest, ?_⟩⟩
    · rw [o1, o2]
      simp [State.fitsSlot, State.slotType?, f3, hk, hkind, xm_reff _ (Or.inr ⟨_, rfl⟩)]
    · rw [f1]; rfl
  · rintro s' d' acts' ⟨i, hi, hl, rfl⟩
    have hiN : i = N := by
      rcases Nat.lt_or_ge i N with h | h
      · rw [show N - i = (N - (i + 1)) + 1 by omega, List.range'_succ] at hl; cases hl
      · omega
    subst hiN
    simp only [wp_pure']
    exact hq _ _
end XM1
section XM2
variable {p : Program} {l : Launch} {e : Env} {R : Room} {s : State} {m : MethodId} {args : Array Value} {below : List Frame} {meth : Method} {c : Code} {H : Heap} {locs : List Loc} {cells slots : Nat} {Q : State → Prop}
theorem xm_stand {T : State} (X : Stand p l e R s m args below meth c T locs cells slots) (cA comp : ClassId) (N M : Nat) (dv : Value) (i : Nat) : Stand p l e R s m args below meth c (xm_f T cA comp N M dv i) (locs ++ (List.range i).map fun j => ⟨T.heap.size, j⟩) (cells + 1 + i) (slots + N + i * M) := by
  induction i with
  | zero =>
    have h := X.pushed (xm_o cA N T.heap.size 0)
    rw [(xm_o_is cA N T.heap.size 0).2.2.1] at h
    simpa [xm_f] using h
  | succ i ih =>
    obtain ⟨f1, f2, f3, f4, f5, f6⟩ := xm_f_is T cA comp N M dv i
    have hcell : ((xm_f T cA comp N M dv i).pushCell (xm_row comp M dv)).heap[T.heap.size]? = some (xm_o cA N T.heap.size i) := by
      have hlt2 : T.heap.size < (xm_f T cA comp N M dv i).heap.size := by omega
      rw [State.heap_pushCell_of_lt (h := hlt2)]; exact f2
    have h := (ih.pushed (xm_row comp M dv)).stored hcell i (.ref (T.heap.size + 1 + i))
    rw [show (xm_row comp M dv).slots.size = M by simp [xm_row]] at h
    rw [show (locs ++ (List.range (i + 1)).map fun j => (⟨T.heap.size, j⟩ : Loc)) = (locs ++ (List.range i).map fun j => (⟨T.heap.size, j⟩ : Loc)) ++ [⟨T.heap.size, i⟩] by simp [List.range_succ, List.append_assoc], show slots + N + (i + 1) * M = slots + N + i * M + M by rw [Nat.succ_mul]; omega]
    exact h
/-- the row: an outer array of N rows of M places each, all new, behind the old heap -/
theorem xm_multi {cc : ByteArray} (hexec : p.tables.exec = Jvm.exec) (hb : c.code = cc) {own : String} {index : Nat} {ty : FieldType} (hown : s.vm.findClass own = some m.cls) (hclink : (Cond.classLink own index ("[" ++ (FieldType.array ty).toString)).before args s = true) (hover : (Cond.arrayOver (.array ty)).before args s = true) (harr : (Cond.arrayClass ty).before args s = true)
    {pc : Nat} {ls : Array Slot} {rest : List Value} (hdg : decode cc pc = .ok (.multianewarray index 2, 4)) {n k : Int32} {N M : Nat} (hN : n.toNatClampNeg = N) (hM : k.toNatClampNeg = M) (hn : ¬ n < 0) (hk : ¬ k < 0) (hb1 : N * 4 ≤ 536870912) (hb2 : M * componentBytes ty ≤ 536870912) (hb3 : M ≤ 536870912)
    (hdf : fits ty (defaultValue ty) = true) (hdd : (defaultValue ty).isDefault = true) (hcells : cells + (1 + N) ≤ R.cells) (hslots : slots + (N + N * M) ≤ R.slots) (hsz : s.heap.size ≤ H.size)
    (kk : ∀ (H1 : Heap) (cA comp : ClassId), s.vm.findClass ("[" ++ (FieldType.array ty).toString) = some cA → s.vm.findClass (FieldType.array ty).toString = some comp → H1.size = H.size + 1 + N → (∀ a, a < H.size → H1[a]? = H[a]?) → H1[H.size]? = some (xm_o cA N H.size N) → (∀ j, j < N → H1[H.size + 1 + j]? = some (xm_row comp M (defaultValue ty))) →
      W p l e R s m args below meth c H1 locs (cells + (1 + N)) (slots + (N + N * M)) Q (F0 m (pc + 4) ls (.ref H.size :: rest))) : W p l e R s m args below meth c H locs cells slots Q (F0 m pc ls (.int k :: .int n :: rest)) := by
  intro T hT X
  subst hT; subst hb; subst hN; subst hM
  have hpl : e.platform.magicAccessors = ({} : Platform).magicAccessors := by rw [X.admits.platform]
  obtain ⟨comp, cA, kA, hcomp, -, hkA, hkindA, hnameA⟩ := arrayOverA_spec hover
  obtain ⟨comp2, kC, c3, hcomp2, hkC, hkindC⟩ := Cond.arrayClass_spec harr
  have ec : comp2 = comp := Option.some.inj (hcomp2.symm.trans hcomp)
  subst ec
  obtain ⟨c0, hfc0, hcl⟩ := Cond.classLink_spec hown hclink e.platform hpl
  cases hnameA.symm.trans hfc0
  obtain ⟨hg₁, hwarm₁, hready₁⟩ := State.classEntry (e := e) X.warmed hcl
  generalize T.vm.noted m.cls index (.cls cA) = vm₁ at hg₁ hwarm₁ hready₁
  obtain ⟨kA₁, hkA₁, heA⟩ := hwarm₁.alike.2.2 _ _ hkA
  obtain ⟨kC₁, hkC₁, heC⟩ := hwarm₁.alike.2.2 _ _ hkC
  have X₁ := X.noted hwarm₁
  have r1 := X.cellsAbove (n := 1 + n.toNatClampNeg) hcells
  have r2 := X.slotsAbove (n := n.toNatClampNeg + n.toNatClampNeg * k.toNatClampNeg) hslots
  have XF := xm_stand X₁ cA comp2 n.toNatClampNeg k.toNatClampNeg (defaultValue ty) n.toNatClampNeg
  obtain ⟨f1, f2, f3, f4, f5, f6⟩ := xm_f_is (T.setVm vm₁) cA comp2 n.toNatClampNeg k.toNatClampNeg (defaultValue ty) n.toNatClampNeg
  have XG := Stand.forget (extra := (List.range n.toNatClampNeg).map fun j => (⟨T.heap.size, j⟩ : Loc)) XF (fun q hq => by
    obtain ⟨j, -, rfl⟩ := List.mem_map.mp hq
    exact hsz)
  obtain ⟨t, a1, b1⟩ := kk _ cA comp2 hnameA hcomp f1 f5 f2 f6 _ rfl (by rw [show cells + (1 + n.toNatClampNeg) = cells + 1 + n.toNatClampNeg by omega, show slots + (n.toNatClampNeg + n.toNatClampNeg * k.toNatClampNeg) = slots + n.toNatClampNeg + n.toNatClampNeg * k.toNatClampNeg by omega]; exact XG)
  refine ⟨t, ?_, b1⟩
  have hl1 : ¬ n.toNatClampNeg > e.platform.arrayLengthLimit := by rw [Launch.admits_arrayLengthLimit X.admits]; omega
  have hh1 : ¬ n.toNatClampNeg * componentBytes (.array ty) > e.platform.maxHeapBytes := by
    rw [Launch.admits_maxHeapBytes X.admits]; show ¬ n.toNatClampNeg * 4 > 536870912; omega
  have hl2 : ¬ k.toNatClampNeg > e.platform.arrayLengthLimit := by rw [Launch.admits_arrayLengthLimit X.admits]; omega
  have hh2 : ¬ k.toNatClampNeg * componentBytes ty > e.platform.maxHeapBytes := by rw [Launch.admits_maxHeapBytes X.admits]; omega
  jvm_step X.here [hexec, hdg]
  simp only [multianewarray.sem, wp_bind', W.resolveClassAt_links (State.method?_setTop (F0 m pc ls (.int k :: .int n :: rest)) X.here.top) hg₁]
  rw [W.popN, if_neg (by decide)]
  refine ⟨F0 m pc ls (.int k :: .int n :: rest), State.topJava?_setTop' (s := T.setVm vm₁) _ X.here.top, [.int n, .int k], rest, rfl, rfl, ?_⟩
  simp only [List.mapM_cons, List.mapM_nil, wp_bind', wp_pure']
  refine xm_make (k := kA₁) (kc := kC₁) (comp := comp2) (cc := c3) (ty := ty) hkA₁ (by rw [heA]; exact hkindA) hkC₁ (by rw [heC]; exact hkindC) hn hk hl1 hh1 hl2 hh2 hdf hdd (by show T.heap.size + 1 + _ ≤ _; omega) (by show T.slotsUsed + _ + _ ≤ _; omega) (fun d' acts' => ?_)
  have eS : ((T.setTop (F0 m pc ls (.int k :: .int n :: rest))).setVm vm₁).setTop (F0 m pc ls rest) = (T.setVm vm₁).setTop (F0 m pc ls rest) := by
    show ((T.setVm vm₁).setTop _).setTop _ = _
    rw [State.setTop_setTop]
  show wp _ _ _ _ _ _ (xm_f (((T.setTop (F0 m pc ls (.int k :: .int n :: rest))).setVm vm₁).setTop (F0 m pc ls rest)) _ _ _ _ _ _)
  rw [eS, xm_f_top]
  simp only [wp_bind', W.mark, W.pushRef, State.topJava?_setTop' _ XF.here.top, Option.some.injEq, exists_eq_left', State.setTop_setTop, State.heap_setTop]
  intro acts
  simp [jvm, XF.here.top]
  exact a1
end XM2
end
section
/-! arrays of arrays that are made and not looked at: the world stays -/
theorem xf_keep {D : va_G} {cl : List vw_C} {ws : va_W} {A : Nat → Prop} {H0 H H1 : Heap} {locs : List Loc} (hP : va_P D cl ws H) (hS : va_S A H0 H locs) (hz : H.size ≤ H1.size) (hk : ∀ a, a < H.size → H1[a]? = H[a]?) : va_P D cl ws H1 ∧ va_S A H0 H1 locs :=
  ⟨hP.kept (fun k q hq => hk q.1 ((hP k q hq).lt)), Nat.le_trans hS.1 hz, fun q h1 h2 => (hk q (Nat.lt_of_lt_of_le h1 hS.1)).trans (hS.2.1 q h1 h2), hS.2.2⟩
section XF
variable {p : Program} {l : Launch} {e : Env} {R : Room} {s : State} {m : MethodId} {args : Array Value} {below : List Frame} {meth : Method} {c : Code} {H : Heap} {locs : List Loc} {cells slots : Nat} {Q : State → Prop}
variable {cc : ByteArray} {pc : Nat} {ls : Array Slot} {rest : List Value} {D : va_G} {cl : List vw_C} {A : Nat → Prop} {ws : va_W}
end XF
section XF2
variable {p : Program} {l : Launch} {e : Env} {R : Room} {s : State} {m : MethodId} {args : Array Value} {below : List Frame} {meth : Method} {c : Code} {H : Heap} {locs : List Loc} {cells slots : Nat} {Q : State → Prop}
variable {cc : ByteArray} {pc : Nat} {ls : Array Slot} {rest : List Value} {D : va_G} {cl : List vw_C} {A : Nat → Prop} {ws : va_W} {tys : List (ClassId × FieldType)}
end XF2
end
section
/-! 21.minit1.lean.txt -/
theorem gw_14 : (Jvm.Cond.initialized "PatchStoreModel$Digest") ∈ xg_1 := xg_s1 14 rfl rfl
theorem gw_1386 : (Jvm.Cond.methodLink "PatchStoreModel$Sha256" (1 : Nat) ({ cls := "PatchStoreModel$Digest", name := "<init>", desc := "(II)V" } : Jvm.MethodName)) ∈ xg_1 := xg_s6 186 rfl rfl
theorem gw_1387 : (Jvm.Cond.instanceMethod ({ cls := "PatchStoreModel$Digest", name := "<init>", desc := "(II)V" } : Jvm.MethodName)) ∈ xg_1 := xg_s6 187 rfl rfl
theorem gw_1388 : (Jvm.Cond.code ({ cls := "PatchStoreModel$Digest", name := "<init>", desc := "(II)V" } : Jvm.MethodName) prog_15_method_1_code (3 : Nat) (Option.none : Option Jvm.ClassFile.FieldType)) ∈ xg_1 := xg_s6 188 rfl rfl
theorem gw_1389 : (Jvm.Cond.methodLink "PatchStoreModel$Digest" (1 : Nat) ({ cls := "java/lang/Object", name := "<init>", desc := "()V" } : Jvm.MethodName)) ∈ xg_1 := xg_s6 189 rfl rfl
theorem gw_1390 : (Jvm.Cond.fieldLink "PatchStoreModel$Sha256" (7 : Nat) "PatchStoreModel$Sha256" "h" "[I") ∈ xg_1 := xg_s6 190 rfl rfl
theorem gw_1391 : (Jvm.Cond.fieldLink "PatchStoreModel$Sha256" (13 : Nat) "PatchStoreModel$Sha256" "w" "[I") ∈ xg_1 := xg_s6 191 rfl rfl
theorem gw_1392 : (Jvm.Cond.fieldLink "PatchStoreModel$Digest" (20 : Nat) "PatchStoreModel$Digest" "size" "I") ∈ xg_1 := xg_s6 192 rfl rfl
theorem gw_1393 : (Jvm.Cond.fieldLink "PatchStoreModel$Digest" (23 : Nat) "PatchStoreModel$Digest" "block" "I") ∈ xg_1 := xg_s6 193 rfl rfl
theorem gw_1394 : (Jvm.Cond.fieldLink "PatchStoreModel$Digest" (26 : Nat) "PatchStoreModel$Digest" "gathered" "[B") ∈ xg_1 := xg_s6 194 rfl rfl
theorem gw_1395 : (Jvm.Cond.fieldLink "PatchStoreModel$Digest" (7 : Nat) "PatchStoreModel$Digest" "filled" "I") ∈ xg_1 := xg_s6 195 rfl rfl
theorem gw_1396 : (Jvm.Cond.fieldLink "PatchStoreModel$Digest" (13 : Nat) "PatchStoreModel$Digest" "total" "J") ∈ xg_1 := xg_s6 196 rfl rfl
theorem gw_1397 : (Jvm.Cond.fieldLink "PatchStoreModel$Digest" (17 : Nat) "PatchStoreModel$Digest" "blocks" "I") ∈ xg_1 := xg_s6 197 rfl rfl
def y_MD_init : MethodName := ⟨"PatchStoreModel$Digest", "<init>", "(II)V"⟩
abbrev c_MD_init : Cond := (Jvm.Cond.code ({ cls := "PatchStoreModel$Digest", name := "<init>", desc := "(II)V" } : Jvm.MethodName) prog_15_method_1_code (3 : Nat) (Option.none : Option Jvm.ClassFile.FieldType))
abbrev ws_MD_init : List Cond := c_MD_init :: xg_1
theorem d_MD_init_0 : decode prog_15_method_1_code 0 = .ok (.aload_n 0, 1) := by decide +kernel
theorem d_MD_init_1 : decode prog_15_method_1_code 1 = .ok (.invokespecial 1, 3) := by decide +kernel
theorem d_MD_init_4 : decode prog_15_method_1_code 4 = .ok (.aload_n 0, 1) := by decide +kernel
theorem d_MD_init_5 : decode prog_15_method_1_code 5 = .ok (.iconst 0, 1) := by decide +kernel
theorem d_MD_init_6 : decode prog_15_method_1_code 6 = .ok (.putfield 7, 3) := by decide +kernel
theorem d_MD_init_9 : decode prog_15_method_1_code 9 = .ok (.aload_n 0, 1) := by decide +kernel
theorem d_MD_init_10 : decode prog_15_method_1_code 10 = .ok (.lconst 0, 1) := by decide +kernel
theorem d_MD_init_11 : decode prog_15_method_1_code 11 = .ok (.putfield 13, 3) := by decide +kernel
theorem d_MD_init_14 : decode prog_15_method_1_code 14 = .ok (.aload_n 0, 1) := by decide +kernel
theorem d_MD_init_15 : decode prog_15_method_1_code 15 = .ok (.iconst 0, 1) := by decide +kernel
theorem d_MD_init_16 : decode prog_15_method_1_code 16 = .ok (.putfield 17, 3) := by decide +kernel
theorem d_MD_init_19 : decode prog_15_method_1_code 19 = .ok (.aload_n 0, 1) := by decide +kernel
theorem d_MD_init_20 : decode prog_15_method_1_code 20 = .ok (.iload_n 1, 1) := by decide +kernel
theorem d_MD_init_21 : decode prog_15_method_1_code 21 = .ok (.putfield 20, 3) := by decide +kernel
theorem d_MD_init_24 : decode prog_15_method_1_code 24 = .ok (.aload_n 0, 1) := by decide +kernel
theorem d_MD_init_25 : decode prog_15_method_1_code 25 = .ok (.iload_n 2, 1) := by decide +kernel
theorem d_MD_init_26 : decode prog_15_method_1_code 26 = .ok (.putfield 23, 3) := by decide +kernel
theorem d_MD_init_29 : decode prog_15_method_1_code 29 = .ok (.aload_n 0, 1) := by decide +kernel
theorem d_MD_init_30 : decode prog_15_method_1_code 30 = .ok (.iload_n 2, 1) := by decide +kernel
theorem d_MD_init_31 : decode prog_15_method_1_code 31 = .ok (.newarray .byte, 2) := by decide +kernel
theorem d_MD_init_33 : decode prog_15_method_1_code 33 = .ok (.putfield 26, 3) := by decide +kernel
theorem d_MD_init_36 : decode prog_15_method_1_code 36 = .ok (.return_, 1) := by decide +kernel
def y_MS_init : MethodName := ⟨"PatchStoreModel$Sha256", "<init>", "()V"⟩
abbrev c_MS_init : Cond := (Jvm.Cond.code ({ cls := "PatchStoreModel$Sha256", name := "<init>", desc := "()V" } : Jvm.MethodName) prog_17_method_1_code (1 : Nat) (Option.none : Option Jvm.ClassFile.FieldType))
abbrev ws_MS_init : List Cond := c_MS_init :: xg_1
theorem d_MS_init_0 : decode prog_17_method_1_code 0 = .ok (.aload_n 0, 1) := by decide +kernel
theorem d_MS_init_1 : decode prog_17_method_1_code 1 = .ok (.bipush 32, 2) := by decide +kernel
theorem d_MS_init_3 : decode prog_17_method_1_code 3 = .ok (.bipush 64, 2) := by decide +kernel
theorem d_MS_init_5 : decode prog_17_method_1_code 5 = .ok (.invokespecial 1, 3) := by decide +kernel
theorem d_MS_init_8 : decode prog_17_method_1_code 8 = .ok (.aload_n 0, 1) := by decide +kernel
theorem d_MS_init_9 : decode prog_17_method_1_code 9 = .ok (.bipush 8, 2) := by decide +kernel
theorem d_MS_init_11 : decode prog_17_method_1_code 11 = .ok (.newarray .int, 2) := by decide +kernel
theorem d_MS_init_13 : decode prog_17_method_1_code 13 = .ok (.putfield 7, 3) := by decide +kernel
theorem d_MS_init_16 : decode prog_17_method_1_code 16 = .ok (.aload_n 0, 1) := by decide +kernel
theorem d_MS_init_17 : decode prog_17_method_1_code 17 = .ok (.bipush 64, 2) := by decide +kernel
theorem d_MS_init_19 : decode prog_17_method_1_code 19 = .ok (.newarray .int, 2) := by decide +kernel
theorem d_MS_init_21 : decode prog_17_method_1_code 21 = .ok (.putfield 13, 3) := by decide +kernel
theorem d_MS_init_24 : decode prog_17_method_1_code 24 = .ok (.return_, 1) := by decide +kernel
set_option maxHeartbeats 4000000 in
set_option maxRecDepth 100000 in
/-- Digest(32, 64) of a Sha256 -/
theorem m_MD_init (l : Launch) (dC : Nat → ClassId) (dI : Nat → Nat → Nat) (cI cB cL cZ cR : ClassId) (h : Nat) (sz : Nat) : Met l y_MD_init ws_MD_init ({ frames := 1, cells := 1, slots := 64, locals := 60 }) (xw_Px dC dI [(cI, .int), (cB, .byte), (cL, .long), (cZ, .boolean), (cR, .object "PatchStore$Repository")] [.ref h, .int 32, .int 64] [(h, .inr (13, [.null, .null, .int 0, .int 0, .null, .int 0, .long 0, .int 0]))] sz) (va_Qv (fun _ : Nat => True) (fun u t => xw_B dC dI [(cI, .int), (cB, .byte), (cL, .long), (cZ, .boolean), (cR, .object "PatchStore$Repository")] (va_A [(h, .inr (13, [.null, .null, .int 0, .int 0, .null, .int 0, .long 0, .int 0]))] sz) [(h, .inr (13, [.null, .null, .int 32, .int 64, .ref u, .int 0, .long 0, .int 0])), (u, .inl (cB, 64, .inl (fun _ => 0)))] t) (va_A [(h, .inr (13, [.null, .null, .int 0, .int 0, .null, .int 0, .long 0, .int 0]))] sz)) 1 64 (va_A [(h, .inr (13, [.null, .null, .int 0, .int 0, .null, .int 0, .long 0, .int 0]))] sz) := by
  refine Met.ofW (cc := prog_15_method_1_code) (maxL := 3) (ret := none) (by decide) rfl ?_
  intro p e s m args below meth c s₁ B hml hv
  obtain ⟨rfl, hsz, hP, hK, hD0, hN, hTh⟩ := hv
  have hx := B.exec
  have hb := B.bytes
  have hr := B.returns
  have hts0 := atoms_spec (ws := ws_MD_init) B.pre
  have hts : ∀ w ∈ xg_1, w.before _ s = true := fun w h => hts0 w (List.mem_cons_of_mem _ h)
  have hown : s.vm.findClass "PatchStoreModel$Digest" = some m.cls := findClass_of_methodNamed B.named
  have hlocks := B.notSynchronized
  have hin : meth.name = "<init>" := (name_of_methodNamed B.named B.method).1
  subst hsz
  have hD := hD0.self (sz := s.heap.size)
  generalize hAe : va_A [(h, .inr (13, [.null, .null, .int 0, .int 0, .null, .int 0, .long 0, .int 0]))] s.heap.size = A at hD hTh ⊢
  have hA : ∀ q : Nat, s.heap.size ≤ q → A q := fun q h => by rw [← hAe]; exact Or.inr h
  have hS : va_S A s.heap s.heap [] := va_S.rf
  have hl := lv_entry ([.ref h, .int 32, .int 64]) (n := 3) (Nat.le_of_ble_eq_true rfl)
  rw [lg_entry_eq]
  generalize (lg_sl ([.ref h, .int 32, .int 64]) ++ List.replicate (3 - (lg_sl ([.ref h, .int 32, .int 64])).length) Slot.unset).toArray = ls at hl ⊢
  have hl : lv_has ls 3 [(0, .ref h), (1, .int 32), (2, .int 64)] := hl
  refine lv_aload_n hx hb d_MD_init_0 rfl (lv_at hl 0 rfl) ?_
  refine W.objInit hx hb hown (hts _ gw_1389) (hts _ gw_43) (hts _ gw_44) rfl (by rw [hml]; exact hl.1) rfl d_MD_init_1 (Nat.le_of_ble_eq_true rfl) (Nat.le_of_ble_eq_true rfl) ?_
  refine W.eq (g2 := F0 m 4 ls []) rfl ?_
  refine lv_aload_n hx hb d_MD_init_4 rfl (lv_at hl 0 rfl) ?_
  refine lv_iconst (v := 0) hx hb d_MD_init_5 (by decide) ?_
  refine va_put (D := (dC, dI)) (ci := 13) (v := .int 0) (ty := .int) (C := R_MS) (T := F_MS) (N := 8) hx hb hts i_MS t_MS t_MS_ok n_MS hown hK hP hD hS 0 rfl rfl 5 (by decide) (hts _ gw_1395) (fun _ h9 => h9) rfl (by decide +kernel) rfl rfl (Nat.le_of_ble_eq_true rfl) d_MD_init_6 (fun H locs hP hD hS => ?_)
  have hP : va_P (dC, dI) classes [(h, .inr (13, [.null, .null, .int 0, .int 0, .null, .int 0, .long 0, .int 0]))] H := hP
  have hD : va_D A [(h, .inr (13, [.null, .null, .int 0, .int 0, .null, .int 0, .long 0, .int 0]))] := hD
  refine lv_aload_n hx hb d_MD_init_9 rfl (lv_at hl 0 rfl) ?_
  refine lv_lconst (v := 0) hx hb d_MD_init_10 (by decide) ?_
  refine va_put (D := (dC, dI)) (ci := 13) (v := .long 0) (ty := .long) (C := R_MS) (T := F_MS) (N := 8) hx hb hts i_MS t_MS t_MS_ok n_MS hown hK hP hD hS 0 rfl rfl 6 (by decide) (hts _ gw_1396) (fun _ h9 => h9) rfl (by decide +kernel) rfl rfl (Nat.le_of_ble_eq_true rfl) d_MD_init_11 (fun H locs hP hD hS => ?_)
  have hP : va_P (dC, dI) classes [(h, .inr (13, [.null, .null, .int 0, .int 0, .null, .int 0, .long 0, .int 0]))] H := hP
  have hD : va_D A [(h, .inr (13, [.null, .null, .int 0, .int 0, .null, .int 0, .long 0, .int 0]))] := hD
  refine lv_aload_n hx hb d_MD_init_14 rfl (lv_at hl 0 rfl) ?_
  refine lv_iconst (v := 0) hx hb d_MD_init_15 (by decide) ?_
  refine va_put (D := (dC, dI)) (ci := 13) (v := .int 0) (ty := .int) (C := R_MS) (T := F_MS) (N := 8) hx hb hts i_MS t_MS t_MS_ok n_MS hown hK hP hD hS 0 rfl rfl 7 (by decide) (hts _ gw_1397) (fun _ h9 => h9) rfl (by decide +kernel) rfl rfl (Nat.le_of_ble_eq_true rfl) d_MD_init_16 (fun H locs hP hD hS => ?_)
  have hP : va_P (dC, dI) classes [(h, .inr (13, [.null, .null, .int 0, .int 0, .null, .int 0, .long 0, .int 0]))] H := hP
  have hD : va_D A [(h, .inr (13, [.null, .null, .int 0, .int 0, .null, .int 0, .long 0, .int 0]))] := hD
  refine lv_aload_n hx hb d_MD_init_19 rfl (lv_at hl 0 rfl) ?_
  refine lv_iload_n hx hb d_MD_init_20 rfl (lv_at hl 1 rfl) ?_
  refine va_putF (D := (dC, dI)) (ci := 13) (v := .int 32) (ty := .int) (C := R_MS) (T := F_MS) (N := 8) hx hb hts i_MS t_MS t_MS_ok n_MS hown hK hP hD hS 0 rfl rfl 2 (by decide) (hts _ gw_1392) (fun _ h9 => h9) rfl hin rfl (by decide +kernel) rfl rfl (Nat.le_of_ble_eq_true rfl) d_MD_init_21 (fun H locs hP hD hS => ?_)
  have hP : va_P (dC, dI) classes [(h, .inr (13, [.null, .null, .int 32, .int 0, .null, .int 0, .long 0, .int 0]))] H := hP
  have hD : va_D A [(h, .inr (13, [.null, .null, .int 32, .int 0, .null, .int 0, .long 0, .int 0]))] := hD
  refine lv_aload_n hx hb d_MD_init_24 rfl (lv_at hl 0 rfl) ?_
  refine lv_iload_n hx hb d_MD_init_25 rfl (lv_at hl 2 rfl) ?_
  refine va_putF (D := (dC, dI)) (ci := 13) (v := .int 64) (ty := .int) (C := R_MS) (T := F_MS) (N := 8) hx hb hts i_MS t_MS t_MS_ok n_MS hown hK hP hD hS 0 rfl rfl 3 (by decide) (hts _ gw_1393) (fun _ h9 => h9) rfl hin rfl (by decide +kernel) rfl rfl (Nat.le_of_ble_eq_true rfl) d_MD_init_26 (fun H locs hP hD hS => ?_)
  have hP : va_P (dC, dI) classes [(h, .inr (13, [.null, .null, .int 32, .int 64, .null, .int 0, .long 0, .int 0]))] H := hP
  have hD : va_D A [(h, .inr (13, [.null, .null, .int 32, .int 64, .null, .int 0, .long 0, .int 0]))] := hD
  refine lv_aload_n hx hb d_MD_init_29 rfl (lv_at hl 0 rfl) ?_
  refine lv_iload_n hx hb d_MD_init_30 rfl (lv_at hl 2 rfl) ?_
  refine va_newa (atype := .byte) (ty := .byte) (a0 := (64, .inl (fun _ => 0))) hx hb (hts _ gw_70) rfl hK hP hD hS hA (fun _ => rfl) (by decide) (N' := 64) (by decide) (by decide) (Nat.le_of_ble_eq_true rfl) (Nat.le_of_ble_eq_true rfl) d_MD_init_31 (fun q31 cA H hK hP hD hS => ?_)
  obtain rfl : cB = cA := (xk_u 5 1 hK rfl rfl).symm
  have hK := hK.sub (tys' := [(cI, .int), (cB, .byte), (cL, .long), (cZ, .boolean), (cR, .object "PatchStore$Repository")]) [0, 1, 2, 3, 4] rfl
  have hP : va_P (dC, dI) classes [(h, .inr (13, [.null, .null, .int 32, .int 64, .null, .int 0, .long 0, .int 0])), (q31, .inl (cB, 64, .inl (fun _ => 0)))] H := hP
  have hD : va_D A [(h, .inr (13, [.null, .null, .int 32, .int 64, .null, .int 0, .long 0, .int 0])), (q31, .inl (cB, 64, .inl (fun _ => 0)))] := hD
  refine W.widen (k := 1) (n := 64) (Nat.le_of_ble_eq_true rfl) (Nat.le_of_ble_eq_true rfl) ?_
  refine va_putF (D := (dC, dI)) (ci := 13) (v := .ref q31) (ty := .array .byte) (C := R_MS) (T := F_MS) (N := 8) hx hb hts i_MS t_MS t_MS_ok n_MS hown hK hP hD hS 0 rfl rfl 4 (by decide) (hts _ gw_1394) (fun _ h9 => h9) rfl hin rfl (by decide +kernel) rfl rfl (Nat.le_of_ble_eq_true rfl) d_MD_init_33 (fun H locs hP hD hS => ?_)
  have hP : va_P (dC, dI) classes [(h, .inr (13, [.null, .null, .int 32, .int 64, .ref q31, .int 0, .long 0, .int 0])), (q31, .inl (cB, 64, .inl (fun _ => 0)))] H := hP
  have hD : va_D A [(h, .inr (13, [.null, .null, .int 32, .int 64, .ref q31, .int 0, .long 0, .int 0])), (q31, .inl (cB, 64, .inl (fun _ => 0)))] := hD
  exact W.vret hx hb hr (fun t ht hW => ⟨⟨q31, rfl, trivial, by rw [ht]; exact hP, va_K.moved hW.alike hK, hD⟩, hS.F ht⟩) hS.2.2 d_MD_init_36
set_option maxHeartbeats 4000000 in
set_option maxRecDepth 100000 in
/-- m_MS_init -/
theorem m_MS_init (l : Launch) (dC : Nat → ClassId) (dI : Nat → Nat → Nat) (cI cB cL cZ cR : ClassId) (h : Nat)  (sz : Nat) : Met l y_MS_init ws_MS_init ({ frames := 2, cells := 3, slots := 136, locals := 100 }) (xw_Px dC dI [(cI, .int), (cB, .byte), (cL, .long), (cZ, .boolean), (cR, .object "PatchStore$Repository")] [.ref h] [(h, .inr (13, [.null, .null, .int 0, .int 0, .null, .int 0, .long 0, .int 0]))] sz) (va_Qv (fun _ : Nat × Nat × Nat => True) (fun u t => xw_B dC dI [(cI, .int), (cB, .byte), (cL, .long), (cZ, .boolean), (cR, .object "PatchStore$Repository")] (va_A [(h, .inr (13, [.null, .null, .int 0, .int 0, .null, .int 0, .long 0, .int 0]))] sz) [(h, .inr (13, [.ref u.2.1, .ref u.2.2, .int 32, .int 64, .ref u.1, .int 0, .long 0, .int 0])), (u.1, .inl (cB, 64, .inl (fun _ => 0))), (u.2.1, .inl (cI, 8, .inl (fun _ => 0))), (u.2.2, .inl (cI, 64, .inl (fun _ => 0)))] t) (va_A [(h, .inr (13, [.null, .null, .int 0, .int 0, .null, .int 0, .long 0, .int 0]))] sz)) 3 136 (va_A [(h, .inr (13, [.null, .null, .int 0, .int 0, .null, .int 0, .long 0, .int 0]))] sz) := by
  refine Met.ofW (cc := prog_17_method_1_code) (maxL := 1) (ret := none) (by decide) rfl ?_
  intro p e s m args below meth c s₁ B hml hv
  obtain ⟨rfl, hsz, hP, hK, hD0, hN, hTh⟩ := hv
  have hx := B.exec
  have hb := B.bytes
  have hr := B.returns
  have hts0 := atoms_spec (ws := ws_MS_init) B.pre
  have hts : ∀ w ∈ xg_1, w.before _ s = true := fun w h => hts0 w (List.mem_cons_of_mem _ h)
  have hown : s.vm.findClass "PatchStoreModel$Sha256" = some m.cls := findClass_of_methodNamed B.named
  have hlocks := B.notSynchronized
  have hin : meth.name = "<init>" := (name_of_methodNamed B.named B.method).1
  subst hsz
  have hD := hD0.self (sz := s.heap.size)
  generalize hAe : va_A [(h, .inr (13, [.null, .null, .int 0, .int 0, .null, .int 0, .long 0, .int 0]))] s.heap.size = A at hD hTh ⊢
  have hA : ∀ q : Nat, s.heap.size ≤ q → A q := fun q h => by rw [← hAe]; exact Or.inr h
  have hS : va_S A s.heap s.heap [] := va_S.rf
  have hl := lv_entry ([.ref h]) (n := 1) (Nat.le_of_ble_eq_true rfl)
  rw [lg_entry_eq]
  generalize (lg_sl ([.ref h]) ++ List.replicate (1 - (lg_sl ([.ref h])).length) Slot.unset).toArray = ls at hl ⊢
  have hl : lv_has ls 1 [(0, .ref h)] := hl
  refine lv_aload_n hx hb d_MS_init_0 rfl (lv_at hl 0 rfl) ?_
  refine lv_bipush (v := 32) hx hb d_MS_init_1 (by decide) ?_
  refine lv_bipush (v := 64) hx hb d_MS_init_3 (by decide) ?_
  have hPc := hP.sub (ws' := [(h, .inr (13, [.null, .null, .int 0, .int 0, .null, .int 0, .long 0, .int 0]))]) [0] rfl
  have hDc := hD.sub (ws' := [(h, .inr (13, [.null, .null, .int 0, .int 0, .null, .int 0, .long 0, .int 0]))]) [0] (by decide) rfl
  have hFc := va_free (wc := [(h, .inr (13, [.null, .null, .int 0, .int 0, .null, .int 0, .long 0, .int 0]))]) hD hS hA [0] rfl
  refine va_callv (va_runI (As := [.int 32, .int 64]) (rest := []) ⟨hx, hb, hml, hown, hts⟩ (m_MD_init l dC dI cI cB cL cZ cR h s.heap.size ) (cwI 2 hts (xg_in gw_1388) rfl rfl rfl (hts _ gw_14) (hts _ gw_1386) (hts _ gw_1387) rfl (by decide +kernel) ⟨Nat.le_of_ble_eq_true rfl, Nat.le_of_ble_eq_true rfl⟩) ⟨xw_blindx, fun U hU hW => ⟨rfl, by rw [hU], by rw [hU]; exact hPc, va_K.moved hW.alike hK, hDc.weaken (fun _ _ _ _ => trivial), xg_N.warm hW hN, by rw [hU]; exact ((hTh.kept (fun a h1 h2 => hS.2.1 a h1 h2)).narrow hFc).moved hW.alike⟩⟩ rfl rfl hl.1 rfl (lv_room (Nat.le_of_ble_eq_true rfl)) d_MS_init_5 ⟨Nat.le_of_ble_eq_true rfl, Nat.le_of_ble_eq_true rfl⟩) hS (fun q _ h => hFc q h) hFc (fun u t H1 locs ht hvm hw hB hz1 hk1 hS => ?_)
  refine W.widen (k := 1) (n := 64) (Nat.le_of_ble_eq_true rfl) (Nat.le_of_ble_eq_true rfl) ?_
  obtain ⟨ga, rfl⟩ : ∃ z, z = u := ⟨_, rfl⟩
  obtain ⟨hP1, hK1, hD1⟩ := hB
  rw [ht] at hP1
  obtain ⟨hP, hD⟩ := va_join (wr := []) (w1 := [(h, .inr (13, [.null, .null, .int 32, .int 64, .ref ga, .int 0, .long 0, .int 0])), (ga, .inl (cB, 64, .inl (fun _ => 0)))]) hP hD [0] [] rfl rfl (by decide) (by decide) hk1 hFc hP1 hD1
  generalize H1 = H at hP hS ⊢
  have hP : va_P (dC, dI) classes [(h, .inr (13, [.null, .null, .int 32, .int 64, .ref ga, .int 0, .long 0, .int 0])), (ga, .inl (cB, 64, .inl (fun _ => 0)))] H := hP
  have hD : va_D A [(h, .inr (13, [.null, .null, .int 32, .int 64, .ref ga, .int 0, .long 0, .int 0])), (ga, .inl (cB, 64, .inl (fun _ => 0)))] := hD
  refine lv_aload_n hx hb d_MS_init_8 rfl (lv_at hl 0 rfl) ?_
  refine lv_bipush (v := 8) hx hb d_MS_init_9 (by decide) ?_
  refine va_newa (atype := .int) (ty := .int) (a0 := (8, .inl (fun _ => 0))) hx hb (hts _ gw_71) rfl hK hP hD hS hA (fun _ => rfl) (by decide) (N' := 8) (by decide) (by decide) (Nat.le_of_ble_eq_true rfl) (Nat.le_of_ble_eq_true rfl) d_MS_init_11 (fun q11 cA H hK hP hD hS => ?_)
  obtain rfl : cI = cA := (xk_u 5 0 hK rfl rfl).symm
  have hK := hK.sub (tys' := [(cI, .int), (cB, .byte), (cL, .long), (cZ, .boolean), (cR, .object "PatchStore$Repository")]) [0, 1, 2, 3, 4] rfl
  have hP : va_P (dC, dI) classes [(h, .inr (13, [.null, .null, .int 32, .int 64, .ref ga, .int 0, .long 0, .int 0])), (ga, .inl (cB, 64, .inl (fun _ => 0))), (q11, .inl (cI, 8, .inl (fun _ => 0)))] H := hP
  have hD : va_D A [(h, .inr (13, [.null, .null, .int 32, .int 64, .ref ga, .int 0, .long 0, .int 0])), (ga, .inl (cB, 64, .inl (fun _ => 0))), (q11, .inl (cI, 8, .inl (fun _ => 0)))] := hD
  refine W.widen (k := 2) (n := 72) (Nat.le_of_ble_eq_true rfl) (Nat.le_of_ble_eq_true rfl) ?_
  refine va_putF (D := (dC, dI)) (ci := 13) (v := .ref q11) (ty := .array .int) (C := R_MS) (T := F_MS) (N := 8) hx hb hts i_MS t_MS t_MS_ok n_MS hown hK hP hD hS 0 rfl rfl 0 (by decide) (hts _ gw_1390) (fun _ h9 => h9) rfl hin rfl (by decide +kernel) rfl rfl (Nat.le_of_ble_eq_true rfl) d_MS_init_13 (fun H locs hP hD hS => ?_)
  have hP : va_P (dC, dI) classes [(h, .inr (13, [.ref q11, .null, .int 32, .int 64, .ref ga, .int 0, .long 0, .int 0])), (ga, .inl (cB, 64, .inl (fun _ => 0))), (q11, .inl (cI, 8, .inl (fun _ => 0)))] H := hP
  have hD : va_D A [(h, .inr (13, [.ref q11, .null, .int 32, .int 64, .ref ga, .int 0, .long 0, .int 0])), (ga, .inl (cB, 64, .inl (fun _ => 0))), (q11, .inl (cI, 8, .inl (fun _ => 0)))] := hD
  refine lv_aload_n hx hb d_MS_init_16 rfl (lv_at hl 0 rfl) ?_
  refine lv_bipush (v := 64) hx hb d_MS_init_17 (by decide) ?_
  refine va_newa (atype := .int) (ty := .int) (a0 := (64, .inl (fun _ => 0))) hx hb (hts _ gw_71) rfl hK hP hD hS hA (fun _ => rfl) (by decide) (N' := 64) (by decide) (by decide) (Nat.le_of_ble_eq_true rfl) (Nat.le_of_ble_eq_true rfl) d_MS_init_19 (fun q19 cA H hK hP hD hS => ?_)
  obtain rfl : cI = cA := (xk_u 5 0 hK rfl rfl).symm
  have hK := hK.sub (tys' := [(cI, .int), (cB, .byte), (cL, .long), (cZ, .boolean), (cR, .object "PatchStore$Repository")]) [0, 1, 2, 3, 4] rfl
  have hP : va_P (dC, dI) classes [(h, .inr (13, [.ref q11, .null, .int 32, .int 64, .ref ga, .int 0, .long 0, .int 0])), (ga, .inl (cB, 64, .inl (fun _ => 0))), (q11, .inl (cI, 8, .inl (fun _ => 0))), (q19, .inl (cI, 64, .inl (fun _ => 0)))] H := hP
  have hD : va_D A [(h, .inr (13, [.ref q11, .null, .int 32, .int 64, .ref ga, .int 0, .long 0, .int 0])), (ga, .inl (cB, 64, .inl (fun _ => 0))), (q11, .inl (cI, 8, .inl (fun _ => 0))), (q19, .inl (cI, 64, .inl (fun _ => 0)))] := hD
  refine W.widen (k := 3) (n := 136) (Nat.le_of_ble_eq_true rfl) (Nat.le_of_ble_eq_true rfl) ?_
  refine va_putF (D := (dC, dI)) (ci := 13) (v := .ref q19) (ty := .array .int) (C := R_MS) (T := F_MS) (N := 8) hx hb hts i_MS t_MS t_MS_ok n_MS hown hK hP hD hS 0 rfl rfl 1 (by decide) (hts _ gw_1391) (fun _ h9 => h9) rfl hin rfl (by decide +kernel) rfl rfl (Nat.le_of_ble_eq_true rfl) d_MS_init_21 (fun H locs hP hD hS => ?_)
  have hP : va_P (dC, dI) classes [(h, .inr (13, [.ref q11, .ref q19, .int 32, .int 64, .ref ga, .int 0, .long 0, .int 0])), (ga, .inl (cB, 64, .inl (fun _ => 0))), (q11, .inl (cI, 8, .inl (fun _ => 0))), (q19, .inl (cI, 64, .inl (fun _ => 0)))] H := hP
  have hD : va_D A [(h, .inr (13, [.ref q11, .ref q19, .int 32, .int 64, .ref ga, .int 0, .long 0, .int 0])), (ga, .inl (cB, 64, .inl (fun _ => 0))), (q11, .inl (cI, 8, .inl (fun _ => 0))), (q19, .inl (cI, 64, .inl (fun _ => 0)))] := hD
  exact W.vret hx hb hr (fun t ht hW => ⟨⟨(ga, q11, q19), rfl, trivial, by rw [ht]; exact hP, va_K.moved hW.alike hK, hD⟩, hS.F ht⟩) hS.2.2 d_MS_init_24
end
section
/-! 22.minit2.lean.txt -/
theorem gw_15 : (Jvm.Cond.initialized "PatchStoreModel$Sha256") ∈ xg_1 := xg_s1 15 rfl rfl
theorem gw_1372 : (Jvm.Cond.methodLink "PatchStoreModel" (1 : Nat) ({ cls := "java/lang/Object", name := "<init>", desc := "()V" } : Jvm.MethodName)) ∈ xg_1 := xg_s6 172 rfl rfl
theorem gw_1373 : (Jvm.Cond.constant "PatchStoreModel" (7 : Nat) (65536 : Int32)) ∈ xg_1 := xg_s6 173 rfl rfl
theorem gw_1374 : (Jvm.Cond.constant "PatchStoreModel" (24 : Nat) (200000 : Int32)) ∈ xg_1 := xg_s6 174 rfl rfl
theorem gw_1375 : (Jvm.Cond.classLink "PatchStoreModel" (44 : Nat) "[B") ∈ xg_1 := xg_s6 175 rfl rfl
theorem gw_1377 : (Jvm.Cond.constant "PatchStoreModel" (55 : Nat) (38000 : Int32)) ∈ xg_1 := xg_s6 177 rfl rfl
theorem gw_1378 : (Jvm.Cond.constant "PatchStoreModel" (92 : Nat) (70000 : Int32)) ∈ xg_1 := xg_s6 178 rfl rfl
theorem gw_1379 : (Jvm.Cond.classLink "PatchStoreModel" (120 : Nat) "[[Z") ∈ xg_1 := xg_s6 179 rfl rfl
theorem gw_1381 : (Jvm.Cond.classLink "PatchStoreModel" (128 : Nat) "PatchStoreModel$Sha256") ∈ xg_1 := xg_s6 181 rfl rfl
theorem gw_1382 : (Jvm.Cond.instantiable "PatchStoreModel$Sha256" (8 : Nat)) ∈ xg_1 := xg_s6 182 rfl rfl
theorem gw_1383 : (Jvm.Cond.methodLink "PatchStoreModel" (130 : Nat) ({ cls := "PatchStoreModel$Sha256", name := "<init>", desc := "()V" } : Jvm.MethodName)) ∈ xg_1 := xg_s6 183 rfl rfl
theorem gw_1384 : (Jvm.Cond.instanceMethod ({ cls := "PatchStoreModel$Sha256", name := "<init>", desc := "()V" } : Jvm.MethodName)) ∈ xg_1 := xg_s6 184 rfl rfl
theorem gw_1385 : (Jvm.Cond.code ({ cls := "PatchStoreModel$Sha256", name := "<init>", desc := "()V" } : Jvm.MethodName) prog_17_method_1_code (1 : Nat) (Option.none : Option Jvm.ClassFile.FieldType)) ∈ xg_1 := xg_s6 185 rfl rfl
theorem gw_1415 : (Jvm.Cond.arrayClass Jvm.ClassFile.FieldType.boolean) ∈ xg_1 := xg_s6 215 rfl rfl
theorem gw_1416 : (Jvm.Cond.classLink "PatchStoreModel" (182 : Nat) "[[I") ∈ xg_1 := xg_s6 216 rfl rfl
theorem gw_1418 : (Jvm.Cond.fieldLink "PatchStoreModel" (8 : Nat) "PatchStoreModel" "tape" "[B") ∈ xg_1 := xg_s6 218 rfl rfl
theorem gw_1419 : (Jvm.Cond.fieldLink "PatchStoreModel" (14 : Nat) "PatchStoreModel" "size" "I") ∈ xg_1 := xg_s6 219 rfl rfl
theorem gw_1420 : (Jvm.Cond.fieldLink "PatchStoreModel" (18 : Nat) "PatchStoreModel" "thrown" "I") ∈ xg_1 := xg_s6 220 rfl rfl
theorem gw_1421 : (Jvm.Cond.fieldLink "PatchStoreModel" (21 : Nat) "PatchStoreModel" "fault" "I") ∈ xg_1 := xg_s6 221 rfl rfl
theorem gw_1422 : (Jvm.Cond.fieldLink "PatchStoreModel" (25 : Nat) "PatchStoreModel" "bytes" "[B") ∈ xg_1 := xg_s6 222 rfl rfl
theorem gw_1423 : (Jvm.Cond.fieldLink "PatchStoreModel" (28 : Nat) "PatchStoreModel" "used" "I") ∈ xg_1 := xg_s6 223 rfl rfl
theorem gw_1424 : (Jvm.Cond.fieldLink "PatchStoreModel" (31 : Nat) "PatchStoreModel" "at" "[I") ∈ xg_1 := xg_s6 224 rfl rfl
theorem gw_1425 : (Jvm.Cond.fieldLink "PatchStoreModel" (35 : Nat) "PatchStoreModel" "length" "[I") ∈ xg_1 := xg_s6 225 rfl rfl
theorem gw_1426 : (Jvm.Cond.fieldLink "PatchStoreModel" (38 : Nat) "PatchStoreModel" "depAt" "[I") ∈ xg_1 := xg_s6 226 rfl rfl
theorem gw_1427 : (Jvm.Cond.fieldLink "PatchStoreModel" (41 : Nat) "PatchStoreModel" "firstChange" "[I") ∈ xg_1 := xg_s6 227 rfl rfl
theorem gw_1428 : (Jvm.Cond.fieldLink "PatchStoreModel" (45 : Nat) "PatchStoreModel" "hashes" "[[B") ∈ xg_1 := xg_s6 228 rfl rfl
theorem gw_1429 : (Jvm.Cond.fieldLink "PatchStoreModel" (49 : Nat) "PatchStoreModel" "deps" "[I") ∈ xg_1 := xg_s6 229 rfl rfl
theorem gw_1430 : (Jvm.Cond.fieldLink "PatchStoreModel" (52 : Nat) "PatchStoreModel" "patches" "I") ∈ xg_1 := xg_s6 230 rfl rfl
theorem gw_1431 : (Jvm.Cond.fieldLink "PatchStoreModel" (56 : Nat) "PatchStoreModel" "sort" "[I") ∈ xg_1 := xg_s6 231 rfl rfl
theorem gw_1432 : (Jvm.Cond.fieldLink "PatchStoreModel" (59 : Nat) "PatchStoreModel" "of" "[I") ∈ xg_1 := xg_s6 232 rfl rfl
theorem gw_1433 : (Jvm.Cond.fieldLink "PatchStoreModel" (62 : Nat) "PatchStoreModel" "fileOf" "[I") ∈ xg_1 := xg_s6 233 rfl rfl
theorem gw_1434 : (Jvm.Cond.fieldLink "PatchStoreModel" (65 : Nat) "PatchStoreModel" "one" "[I") ∈ xg_1 := xg_s6 234 rfl rfl
theorem gw_1435 : (Jvm.Cond.fieldLink "PatchStoreModel" (68 : Nat) "PatchStoreModel" "two" "[I") ∈ xg_1 := xg_s6 235 rfl rfl
theorem gw_1436 : (Jvm.Cond.fieldLink "PatchStoreModel" (71 : Nat) "PatchStoreModel" "nameAt" "[I") ∈ xg_1 := xg_s6 236 rfl rfl
theorem gw_1437 : (Jvm.Cond.fieldLink "PatchStoreModel" (74 : Nat) "PatchStoreModel" "nameSize" "[I") ∈ xg_1 := xg_s6 237 rfl rfl
theorem gw_1438 : (Jvm.Cond.fieldLink "PatchStoreModel" (77 : Nat) "PatchStoreModel" "overAt" "[I") ∈ xg_1 := xg_s6 238 rfl rfl
theorem gw_1439 : (Jvm.Cond.fieldLink "PatchStoreModel" (80 : Nat) "PatchStoreModel" "overCount" "[I") ∈ xg_1 := xg_s6 239 rfl rfl
theorem gw_1440 : (Jvm.Cond.fieldLink "PatchStoreModel" (83 : Nat) "PatchStoreModel" "lineAt" "[I") ∈ xg_1 := xg_s7 0 rfl rfl
theorem gw_1441 : (Jvm.Cond.fieldLink "PatchStoreModel" (86 : Nat) "PatchStoreModel" "lineCount" "[I") ∈ xg_1 := xg_s7 1 rfl rfl
theorem gw_1442 : (Jvm.Cond.fieldLink "PatchStoreModel" (89 : Nat) "PatchStoreModel" "changes" "I") ∈ xg_1 := xg_s7 2 rfl rfl
theorem gw_1443 : (Jvm.Cond.fieldLink "PatchStoreModel" (93 : Nat) "PatchStoreModel" "overs" "[I") ∈ xg_1 := xg_s7 3 rfl rfl
theorem gw_1444 : (Jvm.Cond.fieldLink "PatchStoreModel" (96 : Nat) "PatchStoreModel" "overTotal" "I") ∈ xg_1 := xg_s7 4 rfl rfl
theorem gw_1445 : (Jvm.Cond.fieldLink "PatchStoreModel" (99 : Nat) "PatchStoreModel" "lineChange" "[I") ∈ xg_1 := xg_s7 5 rfl rfl
theorem gw_1446 : (Jvm.Cond.fieldLink "PatchStoreModel" (102 : Nat) "PatchStoreModel" "textAt" "[I") ∈ xg_1 := xg_s7 6 rfl rfl
theorem gw_1447 : (Jvm.Cond.fieldLink "PatchStoreModel" (105 : Nat) "PatchStoreModel" "textSize" "[I") ∈ xg_1 := xg_s7 7 rfl rfl
theorem gw_1448 : (Jvm.Cond.fieldLink "PatchStoreModel" (108 : Nat) "PatchStoreModel" "lines" "I") ∈ xg_1 := xg_s7 8 rfl rfl
theorem gw_1449 : (Jvm.Cond.fieldLink "PatchStoreModel" (111 : Nat) "PatchStoreModel" "fileChange" "[I") ∈ xg_1 := xg_s7 9 rfl rfl
theorem gw_1450 : (Jvm.Cond.fieldLink "PatchStoreModel" (114 : Nat) "PatchStoreModel" "fileLines" "[I") ∈ xg_1 := xg_s7 10 rfl rfl
theorem gw_1451 : (Jvm.Cond.fieldLink "PatchStoreModel" (117 : Nat) "PatchStoreModel" "files" "I") ∈ xg_1 := xg_s7 11 rfl rfl
theorem gw_1452 : (Jvm.Cond.fieldLink "PatchStoreModel" (122 : Nat) "PatchStoreModel" "sets" "[[Z") ∈ xg_1 := xg_s7 12 rfl rfl
theorem gw_1453 : (Jvm.Cond.fieldLink "PatchStoreModel" (125 : Nat) "PatchStoreModel" "stamp" "I") ∈ xg_1 := xg_s7 13 rfl rfl
theorem gw_1454 : (Jvm.Cond.fieldLink "PatchStoreModel" (131 : Nat) "PatchStoreModel" "digest" "LPatchStoreModel$Sha256;") ∈ xg_1 := xg_s7 14 rfl rfl
theorem gw_1455 : (Jvm.Cond.fieldLink "PatchStoreModel" (135 : Nat) "PatchStoreModel" "in" "[B") ∈ xg_1 := xg_s7 15 rfl rfl
theorem gw_1456 : (Jvm.Cond.fieldLink "PatchStoreModel" (138 : Nat) "PatchStoreModel" "pos" "I") ∈ xg_1 := xg_s7 16 rfl rfl
theorem gw_1457 : (Jvm.Cond.fieldLink "PatchStoreModel" (141 : Nat) "PatchStoreModel" "stop" "I") ∈ xg_1 := xg_s7 17 rfl rfl
theorem gw_1458 : (Jvm.Cond.fieldLink "PatchStoreModel" (144 : Nat) "PatchStoreModel" "wrong" "Z") ∈ xg_1 := xg_s7 18 rfl rfl
theorem gw_1459 : (Jvm.Cond.fieldLink "PatchStoreModel" (148 : Nat) "PatchStoreModel" "dep" "[I") ∈ xg_1 := xg_s7 19 rfl rfl
theorem gw_1460 : (Jvm.Cond.fieldLink "PatchStoreModel" (151 : Nat) "PatchStoreModel" "named" "[Z") ∈ xg_1 := xg_s7 20 rfl rfl
theorem gw_1461 : (Jvm.Cond.fieldLink "PatchStoreModel" (155 : Nat) "PatchStoreModel" "depCount" "I") ∈ xg_1 := xg_s7 21 rfl rfl
theorem gw_1462 : (Jvm.Cond.fieldLink "PatchStoreModel" (158 : Nat) "PatchStoreModel" "own" "I") ∈ xg_1 := xg_s7 22 rfl rfl
theorem gw_1463 : (Jvm.Cond.fieldLink "PatchStoreModel" (161 : Nat) "PatchStoreModel" "refFile" "I") ∈ xg_1 := xg_s7 23 rfl rfl
theorem gw_1464 : (Jvm.Cond.fieldLink "PatchStoreModel" (164 : Nat) "PatchStoreModel" "full" "Z") ∈ xg_1 := xg_s7 24 rfl rfl
theorem gw_1465 : (Jvm.Cond.fieldLink "PatchStoreModel" (167 : Nat) "PatchStoreModel" "h" "[B") ∈ xg_1 := xg_s7 25 rfl rfl
theorem gw_1466 : (Jvm.Cond.fieldLink "PatchStoreModel" (170 : Nat) "PatchStoreModel" "counts" "[I") ∈ xg_1 := xg_s7 26 rfl rfl
theorem gw_1467 : (Jvm.Cond.fieldLink "PatchStoreModel" (173 : Nat) "PatchStoreModel" "marked" "[Z") ∈ xg_1 := xg_s7 27 rfl rfl
theorem gw_1468 : (Jvm.Cond.fieldLink "PatchStoreModel" (176 : Nat) "PatchStoreModel" "namings" "[I") ∈ xg_1 := xg_s7 28 rfl rfl
theorem gw_1469 : (Jvm.Cond.fieldLink "PatchStoreModel" (179 : Nat) "PatchStoreModel" "namingCount" "I") ∈ xg_1 := xg_s7 29 rfl rfl
theorem gw_1470 : (Jvm.Cond.fieldLink "PatchStoreModel" (184 : Nat) "PatchStoreModel" "listed" "[[I") ∈ xg_1 := xg_s7 30 rfl rfl
theorem gw_1471 : (Jvm.Cond.fieldLink "PatchStoreModel" (187 : Nat) "PatchStoreModel" "listedCount" "[I") ∈ xg_1 := xg_s7 31 rfl rfl
theorem gw_1472 : (Jvm.Cond.fieldLink "PatchStoreModel" (190 : Nat) "PatchStoreModel" "listedStamp" "[I") ∈ xg_1 := xg_s7 32 rfl rfl
theorem gw_1473 : (Jvm.Cond.fieldLink "PatchStoreModel" (193 : Nat) "PatchStoreModel" "member" "[I") ∈ xg_1 := xg_s7 33 rfl rfl
theorem gw_1474 : (Jvm.Cond.fieldLink "PatchStoreModel" (196 : Nat) "PatchStoreModel" "text" "[I") ∈ xg_1 := xg_s7 34 rfl rfl
theorem gw_1475 : (Jvm.Cond.fieldLink "PatchStoreModel" (199 : Nat) "PatchStoreModel" "place" "[I") ∈ xg_1 := xg_s7 35 rfl rfl
theorem gw_1476 : (Jvm.Cond.fieldLink "PatchStoreModel" (202 : Nat) "PatchStoreModel" "dead" "[Z") ∈ xg_1 := xg_s7 36 rfl rfl
theorem gw_1477 : (Jvm.Cond.fieldLink "PatchStoreModel" (205 : Nat) "PatchStoreModel" "edge" "[[Z") ∈ xg_1 := xg_s7 37 rfl rfl
theorem gw_1478 : (Jvm.Cond.fieldLink "PatchStoreModel" (208 : Nat) "PatchStoreModel" "way" "[[Z") ∈ xg_1 := xg_s7 38 rfl rfl
theorem gw_1479 : (Jvm.Cond.fieldLink "PatchStoreModel" (211 : Nat) "PatchStoreModel" "members" "I") ∈ xg_1 := xg_s7 39 rfl rfl
theorem gw_1480 : (Jvm.Cond.fieldLink "PatchStoreModel" (214 : Nat) "PatchStoreModel" "textLines" "I") ∈ xg_1 := xg_s7 40 rfl rfl
theorem gw_1481 : (Jvm.Cond.fieldLink "PatchStoreModel" (217 : Nat) "PatchStoreModel" "unsure" "I") ∈ xg_1 := xg_s7 41 rfl rfl
theorem gw_1482 : (Jvm.Cond.fieldLink "PatchStoreModel" (220 : Nat) "PatchStoreModel" "workedRepository" "I") ∈ xg_1 := xg_s7 42 rfl rfl
theorem gw_1483 : (Jvm.Cond.fieldLink "PatchStoreModel" (223 : Nat) "PatchStoreModel" "workedFile" "I") ∈ xg_1 := xg_s7 43 rfl rfl
theorem gw_1484 : (Jvm.Cond.fieldLink "PatchStoreModel" (226 : Nat) "PatchStoreModel" "workedStamp" "I") ∈ xg_1 := xg_s7 44 rfl rfl
theorem gw_1485 : (Jvm.Cond.fieldLink "PatchStoreModel" (229 : Nat) "PatchStoreModel" "stack" "[I") ∈ xg_1 := xg_s7 45 rfl rfl
theorem gw_1486 : (Jvm.Cond.fieldLink "PatchStoreModel" (232 : Nat) "PatchStoreModel" "before" "[I") ∈ xg_1 := xg_s7 46 rfl rfl
theorem gw_1487 : (Jvm.Cond.fieldLink "PatchStoreModel" (235 : Nat) "PatchStoreModel" "left" "[Z") ∈ xg_1 := xg_s7 47 rfl rfl
theorem gw_1488 : (Jvm.Cond.fieldLink "PatchStoreModel" (238 : Nat) "PatchStoreModel" "made" "[B") ∈ xg_1 := xg_s7 48 rfl rfl
theorem gw_1489 : (Jvm.Cond.fieldLink "PatchStoreModel" (241 : Nat) "PatchStoreModel" "madeSize" "I") ∈ xg_1 := xg_s7 49 rfl rfl
theorem gw_1490 : (Jvm.Cond.fieldLink "PatchStoreModel" (244 : Nat) "PatchStoreModel" "need" "[I") ∈ xg_1 := xg_s7 50 rfl rfl
theorem gw_1491 : (Jvm.Cond.fieldLink "PatchStoreModel" (247 : Nat) "PatchStoreModel" "needs" "I") ∈ xg_1 := xg_s7 51 rfl rfl
theorem gw_1492 : (Jvm.Cond.fieldLink "PatchStoreModel" (250 : Nat) "PatchStoreModel" "newAt" "[I") ∈ xg_1 := xg_s7 52 rfl rfl
theorem gw_1493 : (Jvm.Cond.fieldLink "PatchStoreModel" (253 : Nat) "PatchStoreModel" "newSize" "[I") ∈ xg_1 := xg_s7 53 rfl rfl
theorem gw_1494 : (Jvm.Cond.fieldLink "PatchStoreModel" (256 : Nat) "PatchStoreModel" "news" "I") ∈ xg_1 := xg_s7 54 rfl rfl
theorem gw_1495 : (Jvm.Cond.fieldLink "PatchStoreModel" (259 : Nat) "PatchStoreModel" "common" "[[I") ∈ xg_1 := xg_s7 55 rfl rfl
theorem gw_1496 : (Jvm.Cond.fieldLink "PatchStoreModel" (262 : Nat) "PatchStoreModel" "keptAs" "[I") ∈ xg_1 := xg_s7 56 rfl rfl
theorem gw_1497 : (Jvm.Cond.fieldLink "PatchStoreModel" (265 : Nat) "PatchStoreModel" "isNew" "[Z") ∈ xg_1 := xg_s7 57 rfl rfl
theorem gw_1498 : (Jvm.Cond.fieldLink "PatchStoreModel" (268 : Nat) "PatchStoreModel" "keptFrom" "[I") ∈ xg_1 := xg_s7 58 rfl rfl
theorem gw_1499 : (Jvm.Cond.fieldLink "PatchStoreModel" (271 : Nat) "PatchStoreModel" "stateOf" "[B") ∈ xg_1 := xg_s7 59 rfl rfl
theorem gw_1500 : (Jvm.Cond.fieldLink "PatchStoreModel" (274 : Nat) "PatchStoreModel" "rising" "[I") ∈ xg_1 := xg_s7 60 rfl rfl
def y_Md_init : MethodName := ⟨"PatchStoreModel", "<init>", "()V"⟩
abbrev c_Md_init : Cond := (Jvm.Cond.code ({ cls := "PatchStoreModel", name := "<init>", desc := "()V" } : Jvm.MethodName) prog_14_method_2_code (1 : Nat) (Option.none : Option Jvm.ClassFile.FieldType))
abbrev ws_Md_init : List Cond := c_Md_init :: xg_1
theorem d_Md_init_0 : decode prog_14_method_2_code 0 = .ok (.aload_n 0, 1) := by decide +kernel
theorem d_Md_init_1 : decode prog_14_method_2_code 1 = .ok (.invokespecial 1, 3) := by decide +kernel
theorem d_Md_init_4 : decode prog_14_method_2_code 4 = .ok (.aload_n 0, 1) := by decide +kernel
theorem d_Md_init_5 : decode prog_14_method_2_code 5 = .ok (.ldc 7, 2) := by decide +kernel
theorem d_Md_init_7 : decode prog_14_method_2_code 7 = .ok (.newarray .byte, 2) := by decide +kernel
theorem d_Md_init_9 : decode prog_14_method_2_code 9 = .ok (.putfield 8, 3) := by decide +kernel
theorem d_Md_init_12 : decode prog_14_method_2_code 12 = .ok (.aload_n 0, 1) := by decide +kernel
theorem d_Md_init_13 : decode prog_14_method_2_code 13 = .ok (.iconst 0, 1) := by decide +kernel
theorem d_Md_init_14 : decode prog_14_method_2_code 14 = .ok (.putfield 14, 3) := by decide +kernel
theorem d_Md_init_17 : decode prog_14_method_2_code 17 = .ok (.aload_n 0, 1) := by decide +kernel
theorem d_Md_init_18 : decode prog_14_method_2_code 18 = .ok (.iconst 0, 1) := by decide +kernel
theorem d_Md_init_19 : decode prog_14_method_2_code 19 = .ok (.putfield 18, 3) := by decide +kernel
theorem d_Md_init_22 : decode prog_14_method_2_code 22 = .ok (.aload_n 0, 1) := by decide +kernel
theorem d_Md_init_23 : decode prog_14_method_2_code 23 = .ok (.iconst 0, 1) := by decide +kernel
theorem d_Md_init_24 : decode prog_14_method_2_code 24 = .ok (.putfield 21, 3) := by decide +kernel
theorem d_Md_init_27 : decode prog_14_method_2_code 27 = .ok (.aload_n 0, 1) := by decide +kernel
theorem d_Md_init_28 : decode prog_14_method_2_code 28 = .ok (.ldc 24, 2) := by decide +kernel
theorem d_Md_init_30 : decode prog_14_method_2_code 30 = .ok (.newarray .byte, 2) := by decide +kernel
theorem d_Md_init_32 : decode prog_14_method_2_code 32 = .ok (.putfield 25, 3) := by decide +kernel
theorem d_Md_init_35 : decode prog_14_method_2_code 35 = .ok (.aload_n 0, 1) := by decide +kernel
theorem d_Md_init_36 : decode prog_14_method_2_code 36 = .ok (.iconst 0, 1) := by decide +kernel
theorem d_Md_init_37 : decode prog_14_method_2_code 37 = .ok (.putfield 28, 3) := by decide +kernel
theorem d_Md_init_40 : decode prog_14_method_2_code 40 = .ok (.aload_n 0, 1) := by decide +kernel
theorem d_Md_init_41 : decode prog_14_method_2_code 41 = .ok (.sipush 501, 3) := by decide +kernel
theorem d_Md_init_44 : decode prog_14_method_2_code 44 = .ok (.newarray .int, 2) := by decide +kernel
theorem d_Md_init_46 : decode prog_14_method_2_code 46 = .ok (.putfield 31, 3) := by decide +kernel
theorem d_Md_init_49 : decode prog_14_method_2_code 49 = .ok (.aload_n 0, 1) := by decide +kernel
theorem d_Md_init_50 : decode prog_14_method_2_code 50 = .ok (.sipush 500, 3) := by decide +kernel
theorem d_Md_init_53 : decode prog_14_method_2_code 53 = .ok (.newarray .int, 2) := by decide +kernel
theorem d_Md_init_55 : decode prog_14_method_2_code 55 = .ok (.putfield 35, 3) := by decide +kernel
theorem d_Md_init_58 : decode prog_14_method_2_code 58 = .ok (.aload_n 0, 1) := by decide +kernel
theorem d_Md_init_59 : decode prog_14_method_2_code 59 = .ok (.sipush 501, 3) := by decide +kernel
theorem d_Md_init_62 : decode prog_14_method_2_code 62 = .ok (.newarray .int, 2) := by decide +kernel
theorem d_Md_init_64 : decode prog_14_method_2_code 64 = .ok (.putfield 38, 3) := by decide +kernel
theorem d_Md_init_67 : decode prog_14_method_2_code 67 = .ok (.aload_n 0, 1) := by decide +kernel
theorem d_Md_init_68 : decode prog_14_method_2_code 68 = .ok (.sipush 501, 3) := by decide +kernel
theorem d_Md_init_71 : decode prog_14_method_2_code 71 = .ok (.newarray .int, 2) := by decide +kernel
theorem d_Md_init_73 : decode prog_14_method_2_code 73 = .ok (.putfield 41, 3) := by decide +kernel
theorem d_Md_init_76 : decode prog_14_method_2_code 76 = .ok (.aload_n 0, 1) := by decide +kernel
theorem d_Md_init_77 : decode prog_14_method_2_code 77 = .ok (.sipush 500, 3) := by decide +kernel
theorem d_Md_init_80 : decode prog_14_method_2_code 80 = .ok (.anewarray 44, 3) := by decide +kernel
theorem d_Md_init_83 : decode prog_14_method_2_code 83 = .ok (.putfield 45, 3) := by decide +kernel
theorem d_Md_init_86 : decode prog_14_method_2_code 86 = .ok (.aload_n 0, 1) := by decide +kernel
theorem d_Md_init_87 : decode prog_14_method_2_code 87 = .ok (.sipush 7000, 3) := by decide +kernel
theorem d_Md_init_90 : decode prog_14_method_2_code 90 = .ok (.newarray .int, 2) := by decide +kernel
theorem d_Md_init_92 : decode prog_14_method_2_code 92 = .ok (.putfield 49, 3) := by decide +kernel
theorem d_Md_init_95 : decode prog_14_method_2_code 95 = .ok (.aload_n 0, 1) := by decide +kernel
theorem d_Md_init_96 : decode prog_14_method_2_code 96 = .ok (.iconst 0, 1) := by decide +kernel
theorem d_Md_init_97 : decode prog_14_method_2_code 97 = .ok (.putfield 52, 3) := by decide +kernel
theorem d_Md_init_100 : decode prog_14_method_2_code 100 = .ok (.aload_n 0, 1) := by decide +kernel
theorem d_Md_init_101 : decode prog_14_method_2_code 101 = .ok (.ldc 55, 2) := by decide +kernel
theorem d_Md_init_103 : decode prog_14_method_2_code 103 = .ok (.newarray .int, 2) := by decide +kernel
theorem d_Md_init_105 : decode prog_14_method_2_code 105 = .ok (.putfield 56, 3) := by decide +kernel
theorem d_Md_init_108 : decode prog_14_method_2_code 108 = .ok (.aload_n 0, 1) := by decide +kernel
theorem d_Md_init_109 : decode prog_14_method_2_code 109 = .ok (.ldc 55, 2) := by decide +kernel
theorem d_Md_init_111 : decode prog_14_method_2_code 111 = .ok (.newarray .int, 2) := by decide +kernel
theorem d_Md_init_113 : decode prog_14_method_2_code 113 = .ok (.putfield 59, 3) := by decide +kernel
theorem d_Md_init_116 : decode prog_14_method_2_code 116 = .ok (.aload_n 0, 1) := by decide +kernel
theorem d_Md_init_117 : decode prog_14_method_2_code 117 = .ok (.ldc 55, 2) := by decide +kernel
theorem d_Md_init_119 : decode prog_14_method_2_code 119 = .ok (.newarray .int, 2) := by decide +kernel
theorem d_Md_init_121 : decode prog_14_method_2_code 121 = .ok (.putfield 62, 3) := by decide +kernel
theorem d_Md_init_124 : decode prog_14_method_2_code 124 = .ok (.aload_n 0, 1) := by decide +kernel
theorem d_Md_init_125 : decode prog_14_method_2_code 125 = .ok (.ldc 55, 2) := by decide +kernel
theorem d_Md_init_127 : decode prog_14_method_2_code 127 = .ok (.newarray .int, 2) := by decide +kernel
theorem d_Md_init_129 : decode prog_14_method_2_code 129 = .ok (.putfield 65, 3) := by decide +kernel
theorem d_Md_init_132 : decode prog_14_method_2_code 132 = .ok (.aload_n 0, 1) := by decide +kernel
theorem d_Md_init_133 : decode prog_14_method_2_code 133 = .ok (.ldc 55, 2) := by decide +kernel
theorem d_Md_init_135 : decode prog_14_method_2_code 135 = .ok (.newarray .int, 2) := by decide +kernel
theorem d_Md_init_137 : decode prog_14_method_2_code 137 = .ok (.putfield 68, 3) := by decide +kernel
theorem d_Md_init_140 : decode prog_14_method_2_code 140 = .ok (.aload_n 0, 1) := by decide +kernel
theorem d_Md_init_141 : decode prog_14_method_2_code 141 = .ok (.ldc 55, 2) := by decide +kernel
theorem d_Md_init_143 : decode prog_14_method_2_code 143 = .ok (.newarray .int, 2) := by decide +kernel
theorem d_Md_init_145 : decode prog_14_method_2_code 145 = .ok (.putfield 71, 3) := by decide +kernel
theorem d_Md_init_148 : decode prog_14_method_2_code 148 = .ok (.aload_n 0, 1) := by decide +kernel
theorem d_Md_init_149 : decode prog_14_method_2_code 149 = .ok (.ldc 55, 2) := by decide +kernel
theorem d_Md_init_151 : decode prog_14_method_2_code 151 = .ok (.newarray .int, 2) := by decide +kernel
theorem d_Md_init_153 : decode prog_14_method_2_code 153 = .ok (.putfield 74, 3) := by decide +kernel
theorem d_Md_init_156 : decode prog_14_method_2_code 156 = .ok (.aload_n 0, 1) := by decide +kernel
theorem d_Md_init_157 : decode prog_14_method_2_code 157 = .ok (.ldc 55, 2) := by decide +kernel
theorem d_Md_init_159 : decode prog_14_method_2_code 159 = .ok (.newarray .int, 2) := by decide +kernel
theorem d_Md_init_161 : decode prog_14_method_2_code 161 = .ok (.putfield 77, 3) := by decide +kernel
theorem d_Md_init_164 : decode prog_14_method_2_code 164 = .ok (.aload_n 0, 1) := by decide +kernel
theorem d_Md_init_165 : decode prog_14_method_2_code 165 = .ok (.ldc 55, 2) := by decide +kernel
theorem d_Md_init_167 : decode prog_14_method_2_code 167 = .ok (.newarray .int, 2) := by decide +kernel
theorem d_Md_init_169 : decode prog_14_method_2_code 169 = .ok (.putfield 80, 3) := by decide +kernel
theorem d_Md_init_172 : decode prog_14_method_2_code 172 = .ok (.aload_n 0, 1) := by decide +kernel
theorem d_Md_init_173 : decode prog_14_method_2_code 173 = .ok (.ldc 55, 2) := by decide +kernel
theorem d_Md_init_175 : decode prog_14_method_2_code 175 = .ok (.newarray .int, 2) := by decide +kernel
theorem d_Md_init_177 : decode prog_14_method_2_code 177 = .ok (.putfield 83, 3) := by decide +kernel
theorem d_Md_init_180 : decode prog_14_method_2_code 180 = .ok (.aload_n 0, 1) := by decide +kernel
theorem d_Md_init_181 : decode prog_14_method_2_code 181 = .ok (.ldc 55, 2) := by decide +kernel
theorem d_Md_init_183 : decode prog_14_method_2_code 183 = .ok (.newarray .int, 2) := by decide +kernel
theorem d_Md_init_185 : decode prog_14_method_2_code 185 = .ok (.putfield 86, 3) := by decide +kernel
theorem d_Md_init_188 : decode prog_14_method_2_code 188 = .ok (.aload_n 0, 1) := by decide +kernel
theorem d_Md_init_189 : decode prog_14_method_2_code 189 = .ok (.iconst 0, 1) := by decide +kernel
theorem d_Md_init_190 : decode prog_14_method_2_code 190 = .ok (.putfield 89, 3) := by decide +kernel
theorem d_Md_init_193 : decode prog_14_method_2_code 193 = .ok (.aload_n 0, 1) := by decide +kernel
theorem d_Md_init_194 : decode prog_14_method_2_code 194 = .ok (.ldc 92, 2) := by decide +kernel
theorem d_Md_init_196 : decode prog_14_method_2_code 196 = .ok (.newarray .int, 2) := by decide +kernel
theorem d_Md_init_198 : decode prog_14_method_2_code 198 = .ok (.putfield 93, 3) := by decide +kernel
theorem d_Md_init_201 : decode prog_14_method_2_code 201 = .ok (.aload_n 0, 1) := by decide +kernel
theorem d_Md_init_202 : decode prog_14_method_2_code 202 = .ok (.iconst 0, 1) := by decide +kernel
theorem d_Md_init_203 : decode prog_14_method_2_code 203 = .ok (.putfield 96, 3) := by decide +kernel
theorem d_Md_init_206 : decode prog_14_method_2_code 206 = .ok (.aload_n 0, 1) := by decide +kernel
theorem d_Md_init_207 : decode prog_14_method_2_code 207 = .ok (.sipush 4000, 3) := by decide +kernel
theorem d_Md_init_210 : decode prog_14_method_2_code 210 = .ok (.newarray .int, 2) := by decide +kernel
theorem d_Md_init_212 : decode prog_14_method_2_code 212 = .ok (.putfield 99, 3) := by decide +kernel
theorem d_Md_init_215 : decode prog_14_method_2_code 215 = .ok (.aload_n 0, 1) := by decide +kernel
theorem d_Md_init_216 : decode prog_14_method_2_code 216 = .ok (.sipush 4000, 3) := by decide +kernel
theorem d_Md_init_219 : decode prog_14_method_2_code 219 = .ok (.newarray .int, 2) := by decide +kernel
theorem d_Md_init_221 : decode prog_14_method_2_code 221 = .ok (.putfield 102, 3) := by decide +kernel
theorem d_Md_init_224 : decode prog_14_method_2_code 224 = .ok (.aload_n 0, 1) := by decide +kernel
theorem d_Md_init_225 : decode prog_14_method_2_code 225 = .ok (.sipush 4000, 3) := by decide +kernel
theorem d_Md_init_228 : decode prog_14_method_2_code 228 = .ok (.newarray .int, 2) := by decide +kernel
theorem d_Md_init_230 : decode prog_14_method_2_code 230 = .ok (.putfield 105, 3) := by decide +kernel
theorem d_Md_init_233 : decode prog_14_method_2_code 233 = .ok (.aload_n 0, 1) := by decide +kernel
theorem d_Md_init_234 : decode prog_14_method_2_code 234 = .ok (.iconst 0, 1) := by decide +kernel
theorem d_Md_init_235 : decode prog_14_method_2_code 235 = .ok (.putfield 108, 3) := by decide +kernel
theorem d_Md_init_238 : decode prog_14_method_2_code 238 = .ok (.aload_n 0, 1) := by decide +kernel
theorem d_Md_init_239 : decode prog_14_method_2_code 239 = .ok (.sipush 200, 3) := by decide +kernel
theorem d_Md_init_242 : decode prog_14_method_2_code 242 = .ok (.newarray .int, 2) := by decide +kernel
theorem d_Md_init_244 : decode prog_14_method_2_code 244 = .ok (.putfield 111, 3) := by decide +kernel
theorem d_Md_init_247 : decode prog_14_method_2_code 247 = .ok (.aload_n 0, 1) := by decide +kernel
theorem d_Md_init_248 : decode prog_14_method_2_code 248 = .ok (.sipush 200, 3) := by decide +kernel
theorem d_Md_init_251 : decode prog_14_method_2_code 251 = .ok (.newarray .int, 2) := by decide +kernel
theorem d_Md_init_253 : decode prog_14_method_2_code 253 = .ok (.putfield 114, 3) := by decide +kernel
theorem d_Md_init_256 : decode prog_14_method_2_code 256 = .ok (.aload_n 0, 1) := by decide +kernel
theorem d_Md_init_257 : decode prog_14_method_2_code 257 = .ok (.iconst 0, 1) := by decide +kernel
theorem d_Md_init_258 : decode prog_14_method_2_code 258 = .ok (.putfield 117, 3) := by decide +kernel
theorem d_Md_init_261 : decode prog_14_method_2_code 261 = .ok (.aload_n 0, 1) := by decide +kernel
theorem d_Md_init_262 : decode prog_14_method_2_code 262 = .ok (.bipush 8, 2) := by decide +kernel
theorem d_Md_init_264 : decode prog_14_method_2_code 264 = .ok (.sipush 500, 3) := by decide +kernel
theorem d_Md_init_267 : decode prog_14_method_2_code 267 = .ok (.multianewarray 120 2, 4) := by decide +kernel
theorem d_Md_init_271 : decode prog_14_method_2_code 271 = .ok (.putfield 122, 3) := by decide +kernel
theorem d_Md_init_274 : decode prog_14_method_2_code 274 = .ok (.aload_n 0, 1) := by decide +kernel
theorem d_Md_init_275 : decode prog_14_method_2_code 275 = .ok (.iconst 1, 1) := by decide +kernel
theorem d_Md_init_276 : decode prog_14_method_2_code 276 = .ok (.putfield 125, 3) := by decide +kernel
theorem d_Md_init_279 : decode prog_14_method_2_code 279 = .ok (.aload_n 0, 1) := by decide +kernel
theorem d_Md_init_280 : decode prog_14_method_2_code 280 = .ok (.new 128, 3) := by decide +kernel
theorem d_Md_init_283 : decode prog_14_method_2_code 283 = .ok (.dup, 1) := by decide +kernel
theorem d_Md_init_284 : decode prog_14_method_2_code 284 = .ok (.invokespecial 130, 3) := by decide +kernel
theorem d_Md_init_287 : decode prog_14_method_2_code 287 = .ok (.putfield 131, 3) := by decide +kernel
theorem d_Md_init_290 : decode prog_14_method_2_code 290 = .ok (.aload_n 0, 1) := by decide +kernel
theorem d_Md_init_291 : decode prog_14_method_2_code 291 = .ok (.aconst_null, 1) := by decide +kernel
theorem d_Md_init_292 : decode prog_14_method_2_code 292 = .ok (.putfield 135, 3) := by decide +kernel
theorem d_Md_init_295 : decode prog_14_method_2_code 295 = .ok (.aload_n 0, 1) := by decide +kernel
theorem d_Md_init_296 : decode prog_14_method_2_code 296 = .ok (.iconst 0, 1) := by decide +kernel
theorem d_Md_init_297 : decode prog_14_method_2_code 297 = .ok (.putfield 138, 3) := by decide +kernel
theorem d_Md_init_300 : decode prog_14_method_2_code 300 = .ok (.aload_n 0, 1) := by decide +kernel
theorem d_Md_init_301 : decode prog_14_method_2_code 301 = .ok (.iconst 0, 1) := by decide +kernel
theorem d_Md_init_302 : decode prog_14_method_2_code 302 = .ok (.putfield 141, 3) := by decide +kernel
theorem d_Md_init_305 : decode prog_14_method_2_code 305 = .ok (.aload_n 0, 1) := by decide +kernel
theorem d_Md_init_306 : decode prog_14_method_2_code 306 = .ok (.iconst 0, 1) := by decide +kernel
theorem d_Md_init_307 : decode prog_14_method_2_code 307 = .ok (.putfield 144, 3) := by decide +kernel
theorem d_Md_init_310 : decode prog_14_method_2_code 310 = .ok (.aload_n 0, 1) := by decide +kernel
theorem d_Md_init_311 : decode prog_14_method_2_code 311 = .ok (.sipush 2100, 3) := by decide +kernel
theorem d_Md_init_314 : decode prog_14_method_2_code 314 = .ok (.newarray .int, 2) := by decide +kernel
theorem d_Md_init_316 : decode prog_14_method_2_code 316 = .ok (.putfield 148, 3) := by decide +kernel
theorem d_Md_init_319 : decode prog_14_method_2_code 319 = .ok (.aload_n 0, 1) := by decide +kernel
theorem d_Md_init_320 : decode prog_14_method_2_code 320 = .ok (.sipush 2100, 3) := by decide +kernel
theorem d_Md_init_323 : decode prog_14_method_2_code 323 = .ok (.newarray .boolean, 2) := by decide +kernel
theorem d_Md_init_325 : decode prog_14_method_2_code 325 = .ok (.putfield 151, 3) := by decide +kernel
theorem d_Md_init_328 : decode prog_14_method_2_code 328 = .ok (.aload_n 0, 1) := by decide +kernel
theorem d_Md_init_329 : decode prog_14_method_2_code 329 = .ok (.iconst 0, 1) := by decide +kernel
theorem d_Md_init_330 : decode prog_14_method_2_code 330 = .ok (.putfield 155, 3) := by decide +kernel
theorem d_Md_init_333 : decode prog_14_method_2_code 333 = .ok (.aload_n 0, 1) := by decide +kernel
theorem d_Md_init_334 : decode prog_14_method_2_code 334 = .ok (.iconst 0, 1) := by decide +kernel
theorem d_Md_init_335 : decode prog_14_method_2_code 335 = .ok (.putfield 158, 3) := by decide +kernel
theorem d_Md_init_338 : decode prog_14_method_2_code 338 = .ok (.aload_n 0, 1) := by decide +kernel
theorem d_Md_init_339 : decode prog_14_method_2_code 339 = .ok (.iconst 0, 1) := by decide +kernel
theorem d_Md_init_340 : decode prog_14_method_2_code 340 = .ok (.putfield 161, 3) := by decide +kernel
theorem d_Md_init_343 : decode prog_14_method_2_code 343 = .ok (.aload_n 0, 1) := by decide +kernel
theorem d_Md_init_344 : decode prog_14_method_2_code 344 = .ok (.iconst 0, 1) := by decide +kernel
theorem d_Md_init_345 : decode prog_14_method_2_code 345 = .ok (.putfield 164, 3) := by decide +kernel
theorem d_Md_init_348 : decode prog_14_method_2_code 348 = .ok (.aload_n 0, 1) := by decide +kernel
theorem d_Md_init_349 : decode prog_14_method_2_code 349 = .ok (.bipush 32, 2) := by decide +kernel
theorem d_Md_init_351 : decode prog_14_method_2_code 351 = .ok (.newarray .byte, 2) := by decide +kernel
theorem d_Md_init_353 : decode prog_14_method_2_code 353 = .ok (.putfield 167, 3) := by decide +kernel
theorem d_Md_init_356 : decode prog_14_method_2_code 356 = .ok (.aload_n 0, 1) := by decide +kernel
theorem d_Md_init_357 : decode prog_14_method_2_code 357 = .ok (.sipush 200, 3) := by decide +kernel
theorem d_Md_init_360 : decode prog_14_method_2_code 360 = .ok (.newarray .int, 2) := by decide +kernel
theorem d_Md_init_362 : decode prog_14_method_2_code 362 = .ok (.putfield 170, 3) := by decide +kernel
theorem d_Md_init_365 : decode prog_14_method_2_code 365 = .ok (.aload_n 0, 1) := by decide +kernel
theorem d_Md_init_366 : decode prog_14_method_2_code 366 = .ok (.sipush 500, 3) := by decide +kernel
theorem d_Md_init_369 : decode prog_14_method_2_code 369 = .ok (.newarray .boolean, 2) := by decide +kernel
theorem d_Md_init_371 : decode prog_14_method_2_code 371 = .ok (.putfield 173, 3) := by decide +kernel
theorem d_Md_init_374 : decode prog_14_method_2_code 374 = .ok (.aload_n 0, 1) := by decide +kernel
theorem d_Md_init_375 : decode prog_14_method_2_code 375 = .ok (.ldc 55, 2) := by decide +kernel
theorem d_Md_init_377 : decode prog_14_method_2_code 377 = .ok (.newarray .int, 2) := by decide +kernel
theorem d_Md_init_379 : decode prog_14_method_2_code 379 = .ok (.putfield 176, 3) := by decide +kernel
theorem d_Md_init_382 : decode prog_14_method_2_code 382 = .ok (.aload_n 0, 1) := by decide +kernel
theorem d_Md_init_383 : decode prog_14_method_2_code 383 = .ok (.iconst 0, 1) := by decide +kernel
theorem d_Md_init_384 : decode prog_14_method_2_code 384 = .ok (.putfield 179, 3) := by decide +kernel
theorem d_Md_init_387 : decode prog_14_method_2_code 387 = .ok (.aload_n 0, 1) := by decide +kernel
theorem d_Md_init_388 : decode prog_14_method_2_code 388 = .ok (.bipush 8, 2) := by decide +kernel
theorem d_Md_init_390 : decode prog_14_method_2_code 390 = .ok (.sipush 200, 3) := by decide +kernel
theorem d_Md_init_393 : decode prog_14_method_2_code 393 = .ok (.multianewarray 182 2, 4) := by decide +kernel
theorem d_Md_init_397 : decode prog_14_method_2_code 397 = .ok (.putfield 184, 3) := by decide +kernel
theorem d_Md_init_400 : decode prog_14_method_2_code 400 = .ok (.aload_n 0, 1) := by decide +kernel
theorem d_Md_init_401 : decode prog_14_method_2_code 401 = .ok (.bipush 8, 2) := by decide +kernel
theorem d_Md_init_403 : decode prog_14_method_2_code 403 = .ok (.newarray .int, 2) := by decide +kernel
theorem d_Md_init_405 : decode prog_14_method_2_code 405 = .ok (.putfield 187, 3) := by decide +kernel
theorem d_Md_init_408 : decode prog_14_method_2_code 408 = .ok (.aload_n 0, 1) := by decide +kernel
theorem d_Md_init_409 : decode prog_14_method_2_code 409 = .ok (.bipush 8, 2) := by decide +kernel
theorem d_Md_init_411 : decode prog_14_method_2_code 411 = .ok (.newarray .int, 2) := by decide +kernel
theorem d_Md_init_413 : decode prog_14_method_2_code 413 = .ok (.putfield 190, 3) := by decide +kernel
theorem d_Md_init_416 : decode prog_14_method_2_code 416 = .ok (.aload_n 0, 1) := by decide +kernel
theorem d_Md_init_417 : decode prog_14_method_2_code 417 = .ok (.sipush 400, 3) := by decide +kernel
theorem d_Md_init_420 : decode prog_14_method_2_code 420 = .ok (.newarray .int, 2) := by decide +kernel
theorem d_Md_init_422 : decode prog_14_method_2_code 422 = .ok (.putfield 193, 3) := by decide +kernel
theorem d_Md_init_425 : decode prog_14_method_2_code 425 = .ok (.aload_n 0, 1) := by decide +kernel
theorem d_Md_init_426 : decode prog_14_method_2_code 426 = .ok (.sipush 400, 3) := by decide +kernel
theorem d_Md_init_429 : decode prog_14_method_2_code 429 = .ok (.newarray .int, 2) := by decide +kernel
theorem d_Md_init_431 : decode prog_14_method_2_code 431 = .ok (.putfield 196, 3) := by decide +kernel
theorem d_Md_init_434 : decode prog_14_method_2_code 434 = .ok (.aload_n 0, 1) := by decide +kernel
theorem d_Md_init_435 : decode prog_14_method_2_code 435 = .ok (.sipush 4000, 3) := by decide +kernel
theorem d_Md_init_438 : decode prog_14_method_2_code 438 = .ok (.newarray .int, 2) := by decide +kernel
theorem d_Md_init_440 : decode prog_14_method_2_code 440 = .ok (.putfield 199, 3) := by decide +kernel
theorem d_Md_init_443 : decode prog_14_method_2_code 443 = .ok (.aload_n 0, 1) := by decide +kernel
theorem d_Md_init_444 : decode prog_14_method_2_code 444 = .ok (.sipush 400, 3) := by decide +kernel
theorem d_Md_init_447 : decode prog_14_method_2_code 447 = .ok (.newarray .boolean, 2) := by decide +kernel
theorem d_Md_init_449 : decode prog_14_method_2_code 449 = .ok (.putfield 202, 3) := by decide +kernel
theorem d_Md_init_452 : decode prog_14_method_2_code 452 = .ok (.aload_n 0, 1) := by decide +kernel
theorem d_Md_init_453 : decode prog_14_method_2_code 453 = .ok (.sipush 400, 3) := by decide +kernel
theorem d_Md_init_456 : decode prog_14_method_2_code 456 = .ok (.sipush 400, 3) := by decide +kernel
theorem d_Md_init_459 : decode prog_14_method_2_code 459 = .ok (.multianewarray 120 2, 4) := by decide +kernel
theorem d_Md_init_463 : decode prog_14_method_2_code 463 = .ok (.putfield 205, 3) := by decide +kernel
theorem d_Md_init_466 : decode prog_14_method_2_code 466 = .ok (.aload_n 0, 1) := by decide +kernel
theorem d_Md_init_467 : decode prog_14_method_2_code 467 = .ok (.sipush 400, 3) := by decide +kernel
theorem d_Md_init_470 : decode prog_14_method_2_code 470 = .ok (.sipush 400, 3) := by decide +kernel
theorem d_Md_init_473 : decode prog_14_method_2_code 473 = .ok (.multianewarray 120 2, 4) := by decide +kernel
theorem d_Md_init_477 : decode prog_14_method_2_code 477 = .ok (.putfield 208, 3) := by decide +kernel
theorem d_Md_init_480 : decode prog_14_method_2_code 480 = .ok (.aload_n 0, 1) := by decide +kernel
theorem d_Md_init_481 : decode prog_14_method_2_code 481 = .ok (.iconst 0, 1) := by decide +kernel
theorem d_Md_init_482 : decode prog_14_method_2_code 482 = .ok (.putfield 211, 3) := by decide +kernel
theorem d_Md_init_485 : decode prog_14_method_2_code 485 = .ok (.aload_n 0, 1) := by decide +kernel
theorem d_Md_init_486 : decode prog_14_method_2_code 486 = .ok (.iconst 0, 1) := by decide +kernel
theorem d_Md_init_487 : decode prog_14_method_2_code 487 = .ok (.putfield 214, 3) := by decide +kernel
theorem d_Md_init_490 : decode prog_14_method_2_code 490 = .ok (.aload_n 0, 1) := by decide +kernel
theorem d_Md_init_491 : decode prog_14_method_2_code 491 = .ok (.iconst 0, 1) := by decide +kernel
theorem d_Md_init_492 : decode prog_14_method_2_code 492 = .ok (.putfield 217, 3) := by decide +kernel
theorem d_Md_init_495 : decode prog_14_method_2_code 495 = .ok (.aload_n 0, 1) := by decide +kernel
theorem d_Md_init_496 : decode prog_14_method_2_code 496 = .ok (.iconst (-1), 1) := by decide +kernel
theorem d_Md_init_497 : decode prog_14_method_2_code 497 = .ok (.putfield 220, 3) := by decide +kernel
theorem d_Md_init_500 : decode prog_14_method_2_code 500 = .ok (.aload_n 0, 1) := by decide +kernel
theorem d_Md_init_501 : decode prog_14_method_2_code 501 = .ok (.iconst (-1), 1) := by decide +kernel
theorem d_Md_init_502 : decode prog_14_method_2_code 502 = .ok (.putfield 223, 3) := by decide +kernel
theorem d_Md_init_505 : decode prog_14_method_2_code 505 = .ok (.aload_n 0, 1) := by decide +kernel
theorem d_Md_init_506 : decode prog_14_method_2_code 506 = .ok (.iconst 0, 1) := by decide +kernel
theorem d_Md_init_507 : decode prog_14_method_2_code 507 = .ok (.putfield 226, 3) := by decide +kernel
theorem d_Md_init_510 : decode prog_14_method_2_code 510 = .ok (.aload_n 0, 1) := by decide +kernel
theorem d_Md_init_511 : decode prog_14_method_2_code 511 = .ok (.sipush 400, 3) := by decide +kernel
theorem d_Md_init_514 : decode prog_14_method_2_code 514 = .ok (.newarray .int, 2) := by decide +kernel
theorem d_Md_init_516 : decode prog_14_method_2_code 516 = .ok (.putfield 229, 3) := by decide +kernel
theorem d_Md_init_519 : decode prog_14_method_2_code 519 = .ok (.aload_n 0, 1) := by decide +kernel
theorem d_Md_init_520 : decode prog_14_method_2_code 520 = .ok (.sipush 400, 3) := by decide +kernel
theorem d_Md_init_523 : decode prog_14_method_2_code 523 = .ok (.newarray .int, 2) := by decide +kernel
theorem d_Md_init_525 : decode prog_14_method_2_code 525 = .ok (.putfield 232, 3) := by decide +kernel
theorem d_Md_init_528 : decode prog_14_method_2_code 528 = .ok (.aload_n 0, 1) := by decide +kernel
theorem d_Md_init_529 : decode prog_14_method_2_code 529 = .ok (.sipush 400, 3) := by decide +kernel
theorem d_Md_init_532 : decode prog_14_method_2_code 532 = .ok (.newarray .boolean, 2) := by decide +kernel
theorem d_Md_init_534 : decode prog_14_method_2_code 534 = .ok (.putfield 235, 3) := by decide +kernel
theorem d_Md_init_537 : decode prog_14_method_2_code 537 = .ok (.aload_n 0, 1) := by decide +kernel
theorem d_Md_init_538 : decode prog_14_method_2_code 538 = .ok (.ldc 24, 2) := by decide +kernel
theorem d_Md_init_540 : decode prog_14_method_2_code 540 = .ok (.newarray .byte, 2) := by decide +kernel
theorem d_Md_init_542 : decode prog_14_method_2_code 542 = .ok (.putfield 238, 3) := by decide +kernel
theorem d_Md_init_545 : decode prog_14_method_2_code 545 = .ok (.aload_n 0, 1) := by decide +kernel
theorem d_Md_init_546 : decode prog_14_method_2_code 546 = .ok (.iconst 0, 1) := by decide +kernel
theorem d_Md_init_547 : decode prog_14_method_2_code 547 = .ok (.putfield 241, 3) := by decide +kernel
theorem d_Md_init_550 : decode prog_14_method_2_code 550 = .ok (.aload_n 0, 1) := by decide +kernel
theorem d_Md_init_551 : decode prog_14_method_2_code 551 = .ok (.sipush 500, 3) := by decide +kernel
theorem d_Md_init_554 : decode prog_14_method_2_code 554 = .ok (.newarray .int, 2) := by decide +kernel
theorem d_Md_init_556 : decode prog_14_method_2_code 556 = .ok (.putfield 244, 3) := by decide +kernel
theorem d_Md_init_559 : decode prog_14_method_2_code 559 = .ok (.aload_n 0, 1) := by decide +kernel
theorem d_Md_init_560 : decode prog_14_method_2_code 560 = .ok (.iconst 0, 1) := by decide +kernel
theorem d_Md_init_561 : decode prog_14_method_2_code 561 = .ok (.putfield 247, 3) := by decide +kernel
theorem d_Md_init_564 : decode prog_14_method_2_code 564 = .ok (.aload_n 0, 1) := by decide +kernel
theorem d_Md_init_565 : decode prog_14_method_2_code 565 = .ok (.sipush 201, 3) := by decide +kernel
theorem d_Md_init_568 : decode prog_14_method_2_code 568 = .ok (.newarray .int, 2) := by decide +kernel
theorem d_Md_init_570 : decode prog_14_method_2_code 570 = .ok (.putfield 250, 3) := by decide +kernel
theorem d_Md_init_573 : decode prog_14_method_2_code 573 = .ok (.aload_n 0, 1) := by decide +kernel
theorem d_Md_init_574 : decode prog_14_method_2_code 574 = .ok (.sipush 201, 3) := by decide +kernel
theorem d_Md_init_577 : decode prog_14_method_2_code 577 = .ok (.newarray .int, 2) := by decide +kernel
theorem d_Md_init_579 : decode prog_14_method_2_code 579 = .ok (.putfield 253, 3) := by decide +kernel
theorem d_Md_init_582 : decode prog_14_method_2_code 582 = .ok (.aload_n 0, 1) := by decide +kernel
theorem d_Md_init_583 : decode prog_14_method_2_code 583 = .ok (.iconst 0, 1) := by decide +kernel
theorem d_Md_init_584 : decode prog_14_method_2_code 584 = .ok (.putfield 256, 3) := by decide +kernel
theorem d_Md_init_587 : decode prog_14_method_2_code 587 = .ok (.aload_n 0, 1) := by decide +kernel
theorem d_Md_init_588 : decode prog_14_method_2_code 588 = .ok (.sipush 202, 3) := by decide +kernel
theorem d_Md_init_591 : decode prog_14_method_2_code 591 = .ok (.sipush 202, 3) := by decide +kernel
theorem d_Md_init_594 : decode prog_14_method_2_code 594 = .ok (.multianewarray 182 2, 4) := by decide +kernel
theorem d_Md_init_598 : decode prog_14_method_2_code 598 = .ok (.putfield 259, 3) := by decide +kernel
theorem d_Md_init_601 : decode prog_14_method_2_code 601 = .ok (.aload_n 0, 1) := by decide +kernel
theorem d_Md_init_602 : decode prog_14_method_2_code 602 = .ok (.sipush 400, 3) := by decide +kernel
theorem d_Md_init_605 : decode prog_14_method_2_code 605 = .ok (.newarray .int, 2) := by decide +kernel
theorem d_Md_init_607 : decode prog_14_method_2_code 607 = .ok (.putfield 262, 3) := by decide +kernel
theorem d_Md_init_610 : decode prog_14_method_2_code 610 = .ok (.aload_n 0, 1) := by decide +kernel
theorem d_Md_init_611 : decode prog_14_method_2_code 611 = .ok (.sipush 201, 3) := by decide +kernel
theorem d_Md_init_614 : decode prog_14_method_2_code 614 = .ok (.newarray .boolean, 2) := by decide +kernel
theorem d_Md_init_616 : decode prog_14_method_2_code 616 = .ok (.putfield 265, 3) := by decide +kernel
theorem d_Md_init_619 : decode prog_14_method_2_code 619 = .ok (.aload_n 0, 1) := by decide +kernel
theorem d_Md_init_620 : decode prog_14_method_2_code 620 = .ok (.sipush 201, 3) := by decide +kernel
theorem d_Md_init_623 : decode prog_14_method_2_code 623 = .ok (.newarray .int, 2) := by decide +kernel
theorem d_Md_init_625 : decode prog_14_method_2_code 625 = .ok (.putfield 268, 3) := by decide +kernel
theorem d_Md_init_628 : decode prog_14_method_2_code 628 = .ok (.aload_n 0, 1) := by decide +kernel
theorem d_Md_init_629 : decode prog_14_method_2_code 629 = .ok (.bipush 32, 2) := by decide +kernel
theorem d_Md_init_631 : decode prog_14_method_2_code 631 = .ok (.newarray .byte, 2) := by decide +kernel
theorem d_Md_init_633 : decode prog_14_method_2_code 633 = .ok (.putfield 271, 3) := by decide +kernel
theorem d_Md_init_636 : decode prog_14_method_2_code 636 = .ok (.aload_n 0, 1) := by decide +kernel
theorem d_Md_init_637 : decode prog_14_method_2_code 637 = .ok (.sipush 500, 3) := by decide +kernel
theorem d_Md_init_640 : decode prog_14_method_2_code 640 = .ok (.newarray .int, 2) := by decide +kernel
theorem d_Md_init_642 : decode prog_14_method_2_code 642 = .ok (.putfield 274, 3) := by decide +kernel
theorem d_Md_init_645 : decode prog_14_method_2_code 645 = .ok (.return_, 1) := by decide +kernel
end
section
/-! XC: a throw that is passed on, with room to spare -/
section XC7
variable {p : Program} {l : Launch} {e : Env} {R : Room} {s : State} {m : MethodId} {args : Array Value} {below : List Frame} {meth : Method} {c : Code} {H : Heap} {locs : List Loc} {cells slots : Nat} {Q : State → Prop}
theorem xc_TW.widen {g : JFrame} {x : Addr} {k n : Nat} (h1 : cells ≤ k) (h2 : slots ≤ n) (kk : xc_TW p l e R s m args below meth c H locs k n Q g x) : xc_TW p l e R s m args below meth c H locs cells slots Q g x := fun T hT X => kk T hT (stand_widen X h1 h2)
/-- passed on: what the callee threw is what this method throws -/
theorem xc_pass {S : Type} {post : Option Value → S → Prop} {thr : String → S → Prop} {B : S → State → Prop} {A : Nat → Prop} {x : Addr} {C : String} {u : S} {t : State} {pc : Nat} {ls : Array Slot} {st : List Value} (hlocks : meth.locks = false) (hno : ∀ z ∈ c.exceptionTable.toList, False) (ht : t.heap = H) (hvm : s.vm.Alike t.vm) (hex : xc_Ex C x t) (hthr : thr C u)
    (hB : ∀ t9 : State, t9.heap = H → s.WarmedH t9.vm → B u t9) (hS : va_S A s.heap H locs) :
    xc_TW p l e R s m args below meth c H locs cells slots (xc_MQ below (xc_Q post thr B A) args s cells slots A) (F0 m pc ls st) x :=
  xc_leave hlocks (fun z hz => absurd (hno z hz) id) (fun t9 h9 hW9 => ⟨Or.inr ⟨x, C, u, rfl, hthr, hex.moved (h9.trans ht.symm) (hvm.symm.trans hW9.alike), hB t9 h9 hW9⟩, hS.F h9⟩) hS.2.2
end XC7
end
section
/-! 24.add0.lean.txt -/
theorem gw_700 : (Jvm.Cond.methodLink "PatchStore" (90 : Nat) ({ cls := "PatchStore", name := "repositoryAt", desc := "(I)LPatchStore$Repository;" } : Jvm.MethodName)) ∈ xg_1 := xg_s3 220 rfl rfl
theorem gw_702 : (Jvm.Cond.instanceMethod ({ cls := "PatchStore", name := "repositoryAt", desc := "(I)LPatchStore$Repository;" } : Jvm.MethodName)) ∈ xg_1 := xg_s3 222 rfl rfl
theorem gw_703 : (Jvm.Cond.code ({ cls := "PatchStore", name := "repositoryAt", desc := "(I)LPatchStore$Repository;" } : Jvm.MethodName) prog_1_method_22_code (2 : Nat) (Option.some (Jvm.ClassFile.FieldType.object "PatchStore$Repository"))) ∈ xg_1 := xg_s3 223 rfl rfl
theorem gw_719 : (Jvm.Cond.methodLink "PatchStore" (94 : Nat) ({ cls := "PatchStore", name := "tapeIsName", desc := "()Z" } : Jvm.MethodName)) ∈ xg_1 := xg_s3 239 rfl rfl
theorem gw_721 : (Jvm.Cond.instanceMethod ({ cls := "PatchStore", name := "tapeIsName", desc := "()Z" } : Jvm.MethodName)) ∈ xg_1 := xg_s4 1 rfl rfl
theorem gw_722 : (Jvm.Cond.code ({ cls := "PatchStore", name := "tapeIsName", desc := "()Z" } : Jvm.MethodName) prog_1_method_21_code (1 : Nat) (Option.some Jvm.ClassFile.FieldType.boolean)) ∈ xg_1 := xg_s4 2 rfl rfl
def y_PS_tapeIsName : MethodName := ⟨"PatchStore", "tapeIsName", "()Z"⟩
abbrev c_PS_tapeIsName : Cond := (Jvm.Cond.code ({ cls := "PatchStore", name := "tapeIsName", desc := "()Z" } : Jvm.MethodName) prog_1_method_21_code (1 : Nat) (Option.some Jvm.ClassFile.FieldType.boolean))
abbrev ws_PS_tapeIsName : List Cond := c_PS_tapeIsName :: xg_1
theorem d_PS_tapeIsName_0 : decode prog_1_method_21_code 0 = .ok (.aload_n 0, 1) := by decide +kernel
theorem d_PS_tapeIsName_1 : decode prog_1_method_21_code 1 = .ok (.getfield 76, 3) := by decide +kernel
theorem d_PS_tapeIsName_4 : decode prog_1_method_21_code 4 = .ok (.iconst 1, 1) := by decide +kernel
theorem d_PS_tapeIsName_5 : decode prog_1_method_21_code 5 = .ok (.if_icmp .lt 31, 3) := by decide +kernel
theorem d_PS_tapeIsName_8 : decode prog_1_method_21_code 8 = .ok (.aload_n 0, 1) := by decide +kernel
theorem d_PS_tapeIsName_9 : decode prog_1_method_21_code 9 = .ok (.getfield 76, 3) := by decide +kernel
theorem d_PS_tapeIsName_12 : decode prog_1_method_21_code 12 = .ok (.bipush 64, 2) := by decide +kernel
theorem d_PS_tapeIsName_14 : decode prog_1_method_21_code 14 = .ok (.if_icmp .gt 22, 3) := by decide +kernel
theorem d_PS_tapeIsName_17 : decode prog_1_method_21_code 17 = .ok (.aload_n 0, 1) := by decide +kernel
theorem d_PS_tapeIsName_18 : decode prog_1_method_21_code 18 = .ok (.getfield 10, 3) := by decide +kernel
theorem d_PS_tapeIsName_21 : decode prog_1_method_21_code 21 = .ok (.iconst 0, 1) := by decide +kernel
theorem d_PS_tapeIsName_22 : decode prog_1_method_21_code 22 = .ok (.aload_n 0, 1) := by decide +kernel
theorem d_PS_tapeIsName_23 : decode prog_1_method_21_code 23 = .ok (.getfield 76, 3) := by decide +kernel
theorem d_PS_tapeIsName_26 : decode prog_1_method_21_code 26 = .ok (.invokestatic 282, 3) := by decide +kernel
theorem d_PS_tapeIsName_29 : decode prog_1_method_21_code 29 = .ok (.ifCond .eq 7, 3) := by decide +kernel
theorem d_PS_tapeIsName_32 : decode prog_1_method_21_code 32 = .ok (.iconst 1, 1) := by decide +kernel
theorem d_PS_tapeIsName_33 : decode prog_1_method_21_code 33 = .ok (.goto 4, 3) := by decide +kernel
theorem d_PS_tapeIsName_36 : decode prog_1_method_21_code 36 = .ok (.iconst 0, 1) := by decide +kernel
theorem d_PS_tapeIsName_37 : decode prog_1_method_21_code 37 = .ok (.ireturn, 1) := by decide +kernel
def y_PS_add : MethodName := ⟨"PatchStore", "add", "(II)I"⟩
abbrev c_PS_add : Cond := (Jvm.Cond.code ({ cls := "PatchStore", name := "add", desc := "(II)I" } : Jvm.MethodName) prog_1_method_4_code (4 : Nat) (Option.some Jvm.ClassFile.FieldType.int))
abbrev ws_PS_add : List Cond := c_PS_add :: xg_1
theorem d_PS_add_0 : decode prog_1_method_4_code 0 = .ok (.aload_n 0, 1) := by decide +kernel
theorem d_PS_add_1 : decode prog_1_method_4_code 1 = .ok (.iload_n 1, 1) := by decide +kernel
theorem d_PS_add_2 : decode prog_1_method_4_code 2 = .ok (.invokevirtual 90, 3) := by decide +kernel
theorem d_PS_add_5 : decode prog_1_method_4_code 5 = .ok (.astore_n 3, 1) := by decide +kernel
theorem d_PS_add_6 : decode prog_1_method_4_code 6 = .ok (.aload_n 0, 1) := by decide +kernel
theorem d_PS_add_7 : decode prog_1_method_4_code 7 = .ok (.invokevirtual 94, 3) := by decide +kernel
theorem d_PS_add_10 : decode prog_1_method_4_code 10 = .ok (.ifCond .ne 11, 3) := by decide +kernel
theorem d_PS_add_13 : decode prog_1_method_4_code 13 = .ok (.new 87, 3) := by decide +kernel
theorem d_PS_add_16 : decode prog_1_method_4_code 16 = .ok (.dup, 1) := by decide +kernel
theorem d_PS_add_17 : decode prog_1_method_4_code 17 = .ok (.invokespecial 89, 3) := by decide +kernel
theorem d_PS_add_20 : decode prog_1_method_4_code 20 = .ok (.athrow, 1) := by decide +kernel
theorem d_PS_add_21 : decode prog_1_method_4_code 21 = .ok (.aload_n 0, 1) := by decide +kernel
theorem d_PS_add_22 : decode prog_1_method_4_code 22 = .ok (.getfield 62, 3) := by decide +kernel
theorem d_PS_add_25 : decode prog_1_method_4_code 25 = .ok (.iload_n 2, 1) := by decide +kernel
theorem d_PS_add_26 : decode prog_1_method_4_code 26 = .ok (.aload_n 0, 1) := by decide +kernel
theorem d_PS_add_27 : decode prog_1_method_4_code 27 = .ok (.getfield 10, 3) := by decide +kernel
theorem d_PS_add_30 : decode prog_1_method_4_code 30 = .ok (.aload_n 0, 1) := by decide +kernel
theorem d_PS_add_31 : decode prog_1_method_4_code 31 = .ok (.getfield 76, 3) := by decide +kernel
theorem d_PS_add_34 : decode prog_1_method_4_code 34 = .ok (.invokevirtual 98, 3) := by decide +kernel
theorem d_PS_add_37 : decode prog_1_method_4_code 37 = .ok (.aload_n 0, 1) := by decide +kernel
theorem d_PS_add_38 : decode prog_1_method_4_code 38 = .ok (.aload_n 3, 1) := by decide +kernel
theorem d_PS_add_39 : decode prog_1_method_4_code 39 = .ok (.aload_n 0, 1) := by decide +kernel
theorem d_PS_add_40 : decode prog_1_method_4_code 40 = .ok (.getfield 39, 3) := by decide +kernel
theorem d_PS_add_43 : decode prog_1_method_4_code 43 = .ok (.aload_n 3, 1) := by decide +kernel
theorem d_PS_add_44 : decode prog_1_method_4_code 44 = .ok (.invokevirtual 102, 3) := by decide +kernel
theorem d_PS_add_47 : decode prog_1_method_4_code 47 = .ok (.invokevirtual 106, 3) := by decide +kernel
theorem d_PS_add_50 : decode prog_1_method_4_code 50 = .ok (.ireturn, 1) := by decide +kernel
theorem nz_b0 : narrow .boolean (.int 0) = .int 0 := by decide
theorem nz_b1 : narrow .boolean (.int 1) = .int 1 := by decide
end
section
/-! 25.load0.lean.txt -/
theorem gw_22 : (Jvm.Cond.initialized "java/util/Arrays") ∈ xg_1 := xg_s1 22 rfl rfl
theorem gw_236 : (Jvm.Cond.fieldLink "PatchStore$View" (59 : Nat) "PatchStore$Stock" "patches" "I") ∈ xg_1 := xg_s1 236 rfl rfl
theorem gw_326 : (Jvm.Cond.fieldLink "PatchStore$View" (79 : Nat) "PatchStore$View" "fileTotal" "I") ∈ xg_1 := xg_s2 86 rfl rfl
theorem gw_327 : (Jvm.Cond.fieldLink "PatchStore" (214 : Nat) "PatchStore$View" "fileTotal" "I") ∈ xg_1 := xg_s2 87 rfl rfl
theorem gw_328 : (Jvm.Cond.fieldLink "PatchStore$View" (76 : Nat) "PatchStore$View" "namingTotal" "I") ∈ xg_1 := xg_s2 88 rfl rfl
theorem gw_332 : (Jvm.Cond.fieldLink "PatchStore$View" (45 : Nat) "PatchStore$View" "loaded" "LPatchStore$Repository;") ∈ xg_1 := xg_s2 92 rfl rfl
theorem gw_333 : (Jvm.Cond.fieldLink "PatchStore$View" (49 : Nat) "PatchStore$View" "version" "I") ∈ xg_1 := xg_s2 93 rfl rfl
theorem gw_335 : (Jvm.Cond.fieldLink "PatchStore$View" (56 : Nat) "PatchStore$View" "round" "I") ∈ xg_1 := xg_s2 95 rfl rfl
theorem gw_533 : (Jvm.Cond.fieldLink "PatchStore$View" (53 : Nat) "PatchStore$Repository" "version" "I") ∈ xg_1 := xg_s3 53 rfl rfl
theorem gw_735 : (Jvm.Cond.static ({ cls := "java/util/Arrays", name := "fill", desc := "([II)V" } : Jvm.MethodName)) ∈ xg_1 := xg_s4 15 rfl rfl
theorem gw_736 : (Jvm.Cond.code ({ cls := "java/util/Arrays", name := "fill", desc := "([II)V" } : Jvm.MethodName) prog_36_method_103_code (4 : Nat) (Option.none : Option Jvm.ClassFile.FieldType)) ∈ xg_1 := xg_s4 16 rfl rfl
theorem gw_995 : (Jvm.Cond.methodLink "PatchStore" (211 : Nat) ({ cls := "PatchStore$View", name := "load", desc := "(LPatchStore$Repository;)V" } : Jvm.MethodName)) ∈ xg_1 := xg_s5 35 rfl rfl
theorem gw_996 : (Jvm.Cond.instanceMethod ({ cls := "PatchStore$View", name := "load", desc := "(LPatchStore$Repository;)V" } : Jvm.MethodName)) ∈ xg_1 := xg_s5 36 rfl rfl
theorem gw_997 : (Jvm.Cond.selects "PatchStore$View" ({ cls := "PatchStore$View", name := "load", desc := "(LPatchStore$Repository;)V" } : Jvm.MethodName) ({ cls := "PatchStore$View", name := "load", desc := "(LPatchStore$Repository;)V" } : Jvm.MethodName)) ∈ xg_1 := xg_s5 37 rfl rfl
theorem gw_998 : (Jvm.Cond.code ({ cls := "PatchStore$View", name := "load", desc := "(LPatchStore$Repository;)V" } : Jvm.MethodName) prog_12_method_2_code (3 : Nat) (Option.none : Option Jvm.ClassFile.FieldType)) ∈ xg_1 := xg_s5 38 rfl rfl
theorem gw_1006 : (Jvm.Cond.methodLink "PatchStore$View" (70 : Nat) ({ cls := "java/util/Arrays", name := "fill", desc := "([II)V" } : Jvm.MethodName)) ∈ xg_1 := xg_s5 46 rfl rfl
theorem gw_1012 : (Jvm.Cond.methodLink "PatchStore$View" (88 : Nat) ({ cls := "PatchStore$View", name := "leaveOutNameless", desc := "()V" } : Jvm.MethodName)) ∈ xg_1 := xg_s5 52 rfl rfl
theorem gw_1014 : (Jvm.Cond.instanceMethod ({ cls := "PatchStore$View", name := "leaveOutNameless", desc := "()V" } : Jvm.MethodName)) ∈ xg_1 := xg_s5 54 rfl rfl
theorem gw_1015 : (Jvm.Cond.code ({ cls := "PatchStore$View", name := "leaveOutNameless", desc := "()V" } : Jvm.MethodName) prog_12_method_5_code (3 : Nat) (Option.none : Option Jvm.ClassFile.FieldType)) ∈ xg_1 := xg_s5 55 rfl rfl
def y_Ar_fill0 : MethodName := ⟨"java/util/Arrays", "fill", "([II)V"⟩
abbrev c_Ar_fill0 : Cond := (Jvm.Cond.code ({ cls := "java/util/Arrays", name := "fill", desc := "([II)V" } : Jvm.MethodName) prog_36_method_103_code (4 : Nat) (Option.none : Option Jvm.ClassFile.FieldType))
abbrev ws_Ar_fill0 : List Cond := c_Ar_fill0 :: xg_1
theorem d_Ar_fill0_0 : decode prog_36_method_103_code 0 = .ok (.iconst 0, 1) := by decide +kernel
theorem d_Ar_fill0_1 : decode prog_36_method_103_code 1 = .ok (.istore_n 2, 1) := by decide +kernel
theorem d_Ar_fill0_2 : decode prog_36_method_103_code 2 = .ok (.aload_n 0, 1) := by decide +kernel
theorem d_Ar_fill0_3 : decode prog_36_method_103_code 3 = .ok (.arraylength, 1) := by decide +kernel
theorem d_Ar_fill0_4 : decode prog_36_method_103_code 4 = .ok (.istore_n 3, 1) := by decide +kernel
theorem d_Ar_fill0_5 : decode prog_36_method_103_code 5 = .ok (.iload_n 2, 1) := by decide +kernel
theorem d_Ar_fill0_6 : decode prog_36_method_103_code 6 = .ok (.iload_n 3, 1) := by decide +kernel
theorem d_Ar_fill0_7 : decode prog_36_method_103_code 7 = .ok (.if_icmp .ge 13, 3) := by decide +kernel
theorem d_Ar_fill0_10 : decode prog_36_method_103_code 10 = .ok (.aload_n 0, 1) := by decide +kernel
theorem d_Ar_fill0_11 : decode prog_36_method_103_code 11 = .ok (.iload_n 2, 1) := by decide +kernel
theorem d_Ar_fill0_12 : decode prog_36_method_103_code 12 = .ok (.iload_n 1, 1) := by decide +kernel
theorem d_Ar_fill0_13 : decode prog_36_method_103_code 13 = .ok (.iastore, 1) := by decide +kernel
theorem d_Ar_fill0_14 : decode prog_36_method_103_code 14 = .ok (.iinc 2 1, 3) := by decide +kernel
theorem d_Ar_fill0_17 : decode prog_36_method_103_code 17 = .ok (.goto (-12), 3) := by decide +kernel
theorem d_Ar_fill0_20 : decode prog_36_method_103_code 20 = .ok (.return_, 1) := by decide +kernel
def y_Vw_leaveOutNameless : MethodName := ⟨"PatchStore$View", "leaveOutNameless", "()V"⟩
abbrev c_Vw_leaveOutNameless : Cond := (Jvm.Cond.code ({ cls := "PatchStore$View", name := "leaveOutNameless", desc := "()V" } : Jvm.MethodName) prog_12_method_5_code (3 : Nat) (Option.none : Option Jvm.ClassFile.FieldType))
abbrev ws_Vw_leaveOutNameless : List Cond := c_Vw_leaveOutNameless :: xg_1
theorem d_Vw_leaveOutNameless_0 : decode prog_12_method_5_code 0 = .ok (.iconst 0, 1) := by decide +kernel
theorem d_Vw_leaveOutNameless_1 : decode prog_12_method_5_code 1 = .ok (.istore_n 1, 1) := by decide +kernel
theorem d_Vw_leaveOutNameless_2 : decode prog_12_method_5_code 2 = .ok (.iconst 0, 1) := by decide +kernel
theorem d_Vw_leaveOutNameless_3 : decode prog_12_method_5_code 3 = .ok (.istore_n 2, 1) := by decide +kernel
theorem d_Vw_leaveOutNameless_4 : decode prog_12_method_5_code 4 = .ok (.iload_n 2, 1) := by decide +kernel
theorem d_Vw_leaveOutNameless_5 : decode prog_12_method_5_code 5 = .ok (.aload_n 0, 1) := by decide +kernel
theorem d_Vw_leaveOutNameless_6 : decode prog_12_method_5_code 6 = .ok (.getfield 79, 3) := by decide +kernel
theorem d_Vw_leaveOutNameless_9 : decode prog_12_method_5_code 9 = .ok (.if_icmp .ge 38, 3) := by decide +kernel
theorem d_Vw_leaveOutNameless_12 : decode prog_12_method_5_code 12 = .ok (.aload_n 0, 1) := by decide +kernel
theorem d_Vw_leaveOutNameless_13 : decode prog_12_method_5_code 13 = .ok (.getfield 15, 3) := by decide +kernel
theorem d_Vw_leaveOutNameless_16 : decode prog_12_method_5_code 16 = .ok (.aload_n 0, 1) := by decide +kernel
theorem d_Vw_leaveOutNameless_17 : decode prog_12_method_5_code 17 = .ok (.getfield 9, 3) := by decide +kernel
theorem d_Vw_leaveOutNameless_20 : decode prog_12_method_5_code 20 = .ok (.iload_n 2, 1) := by decide +kernel
theorem d_Vw_leaveOutNameless_21 : decode prog_12_method_5_code 21 = .ok (.iaload, 1) := by decide +kernel
theorem d_Vw_leaveOutNameless_22 : decode prog_12_method_5_code 22 = .ok (.iaload, 1) := by decide +kernel
theorem d_Vw_leaveOutNameless_23 : decode prog_12_method_5_code 23 = .ok (.ifCond .le 18, 3) := by decide +kernel
theorem d_Vw_leaveOutNameless_26 : decode prog_12_method_5_code 26 = .ok (.aload_n 0, 1) := by decide +kernel
theorem d_Vw_leaveOutNameless_27 : decode prog_12_method_5_code 27 = .ok (.getfield 9, 3) := by decide +kernel
theorem d_Vw_leaveOutNameless_30 : decode prog_12_method_5_code 30 = .ok (.iload_n 1, 1) := by decide +kernel
theorem d_Vw_leaveOutNameless_31 : decode prog_12_method_5_code 31 = .ok (.aload_n 0, 1) := by decide +kernel
theorem d_Vw_leaveOutNameless_32 : decode prog_12_method_5_code 32 = .ok (.getfield 9, 3) := by decide +kernel
theorem d_Vw_leaveOutNameless_35 : decode prog_12_method_5_code 35 = .ok (.iload_n 2, 1) := by decide +kernel
theorem d_Vw_leaveOutNameless_36 : decode prog_12_method_5_code 36 = .ok (.iaload, 1) := by decide +kernel
theorem d_Vw_leaveOutNameless_37 : decode prog_12_method_5_code 37 = .ok (.iastore, 1) := by decide +kernel
theorem d_Vw_leaveOutNameless_38 : decode prog_12_method_5_code 38 = .ok (.iinc 1 1, 3) := by decide +kernel
theorem d_Vw_leaveOutNameless_41 : decode prog_12_method_5_code 41 = .ok (.iinc 2 1, 3) := by decide +kernel
theorem d_Vw_leaveOutNameless_44 : decode prog_12_method_5_code 44 = .ok (.goto (-40), 3) := by decide +kernel
theorem d_Vw_leaveOutNameless_47 : decode prog_12_method_5_code 47 = .ok (.aload_n 0, 1) := by decide +kernel
theorem d_Vw_leaveOutNameless_48 : decode prog_12_method_5_code 48 = .ok (.iload_n 1, 1) := by decide +kernel
theorem d_Vw_leaveOutNameless_49 : decode prog_12_method_5_code 49 = .ok (.putfield 79, 3) := by decide +kernel
theorem d_Vw_leaveOutNameless_52 : decode prog_12_method_5_code 52 = .ok (.return_, 1) := by decide +kernel
def y_Vw_load : MethodName := ⟨"PatchStore$View", "load", "(LPatchStore$Repository;)V"⟩
abbrev c_Vw_load : Cond := (Jvm.Cond.code ({ cls := "PatchStore$View", name := "load", desc := "(LPatchStore$Repository;)V" } : Jvm.MethodName) prog_12_method_2_code (3 : Nat) (Option.none : Option Jvm.ClassFile.FieldType))
abbrev ws_Vw_load : List Cond := c_Vw_load :: xg_1
theorem d_Vw_load_0 : decode prog_12_method_2_code 0 = .ok (.aload_n 0, 1) := by decide +kernel
theorem d_Vw_load_1 : decode prog_12_method_2_code 1 = .ok (.getfield 45, 3) := by decide +kernel
theorem d_Vw_load_4 : decode prog_12_method_2_code 4 = .ok (.aload_n 1, 1) := by decide +kernel
theorem d_Vw_load_5 : decode prog_12_method_2_code 5 = .ok (.if_acmp .ne 15, 3) := by decide +kernel
theorem d_Vw_load_8 : decode prog_12_method_2_code 8 = .ok (.aload_n 0, 1) := by decide +kernel
theorem d_Vw_load_9 : decode prog_12_method_2_code 9 = .ok (.getfield 49, 3) := by decide +kernel
theorem d_Vw_load_12 : decode prog_12_method_2_code 12 = .ok (.aload_n 1, 1) := by decide +kernel
theorem d_Vw_load_13 : decode prog_12_method_2_code 13 = .ok (.getfield 53, 3) := by decide +kernel
theorem d_Vw_load_16 : decode prog_12_method_2_code 16 = .ok (.if_icmp .ne 4, 3) := by decide +kernel
theorem d_Vw_load_19 : decode prog_12_method_2_code 19 = .ok (.return_, 1) := by decide +kernel
theorem d_Vw_load_20 : decode prog_12_method_2_code 20 = .ok (.aload_n 0, 1) := by decide +kernel
theorem d_Vw_load_21 : decode prog_12_method_2_code 21 = .ok (.aload_n 1, 1) := by decide +kernel
theorem d_Vw_load_22 : decode prog_12_method_2_code 22 = .ok (.putfield 45, 3) := by decide +kernel
theorem d_Vw_load_25 : decode prog_12_method_2_code 25 = .ok (.aload_n 0, 1) := by decide +kernel
theorem d_Vw_load_26 : decode prog_12_method_2_code 26 = .ok (.aload_n 1, 1) := by decide +kernel
theorem d_Vw_load_27 : decode prog_12_method_2_code 27 = .ok (.getfield 53, 3) := by decide +kernel
theorem d_Vw_load_30 : decode prog_12_method_2_code 30 = .ok (.putfield 49, 3) := by decide +kernel
theorem d_Vw_load_33 : decode prog_12_method_2_code 33 = .ok (.aload_n 0, 1) := by decide +kernel
theorem d_Vw_load_34 : decode prog_12_method_2_code 34 = .ok (.dup, 1) := by decide +kernel
theorem d_Vw_load_35 : decode prog_12_method_2_code 35 = .ok (.getfield 56, 3) := by decide +kernel
theorem d_Vw_load_38 : decode prog_12_method_2_code 38 = .ok (.iconst 1, 1) := by decide +kernel
theorem d_Vw_load_39 : decode prog_12_method_2_code 39 = .ok (.iadd, 1) := by decide +kernel
theorem d_Vw_load_40 : decode prog_12_method_2_code 40 = .ok (.putfield 56, 3) := by decide +kernel
theorem d_Vw_load_43 : decode prog_12_method_2_code 43 = .ok (.iconst 0, 1) := by decide +kernel
theorem d_Vw_load_44 : decode prog_12_method_2_code 44 = .ok (.istore_n 2, 1) := by decide +kernel
theorem d_Vw_load_45 : decode prog_12_method_2_code 45 = .ok (.iload_n 2, 1) := by decide +kernel
theorem d_Vw_load_46 : decode prog_12_method_2_code 46 = .ok (.aload_n 0, 1) := by decide +kernel
theorem d_Vw_load_47 : decode prog_12_method_2_code 47 = .ok (.getfield 34, 3) := by decide +kernel
theorem d_Vw_load_50 : decode prog_12_method_2_code 50 = .ok (.getfield 59, 3) := by decide +kernel
theorem d_Vw_load_53 : decode prog_12_method_2_code 53 = .ok (.if_icmp .ge 22, 3) := by decide +kernel
theorem d_Vw_load_56 : decode prog_12_method_2_code 56 = .ok (.aload_n 1, 1) := by decide +kernel
theorem d_Vw_load_57 : decode prog_12_method_2_code 57 = .ok (.iload_n 2, 1) := by decide +kernel
theorem d_Vw_load_58 : decode prog_12_method_2_code 58 = .ok (.invokevirtual 62, 3) := by decide +kernel
theorem d_Vw_load_61 : decode prog_12_method_2_code 61 = .ok (.ifCond .eq 8, 3) := by decide +kernel
theorem d_Vw_load_64 : decode prog_12_method_2_code 64 = .ok (.aload_n 0, 1) := by decide +kernel
theorem d_Vw_load_65 : decode prog_12_method_2_code 65 = .ok (.iload_n 2, 1) := by decide +kernel
theorem d_Vw_load_66 : decode prog_12_method_2_code 66 = .ok (.invokevirtual 66, 3) := by decide +kernel
theorem d_Vw_load_69 : decode prog_12_method_2_code 69 = .ok (.iinc 2 1, 3) := by decide +kernel
theorem d_Vw_load_72 : decode prog_12_method_2_code 72 = .ok (.goto (-27), 3) := by decide +kernel
theorem d_Vw_load_75 : decode prog_12_method_2_code 75 = .ok (.aload_n 0, 1) := by decide +kernel
theorem d_Vw_load_76 : decode prog_12_method_2_code 76 = .ok (.getfield 15, 3) := by decide +kernel
theorem d_Vw_load_79 : decode prog_12_method_2_code 79 = .ok (.iconst 0, 1) := by decide +kernel
theorem d_Vw_load_80 : decode prog_12_method_2_code 80 = .ok (.invokestatic 70, 3) := by decide +kernel
theorem d_Vw_load_83 : decode prog_12_method_2_code 83 = .ok (.aload_n 0, 1) := by decide +kernel
theorem d_Vw_load_84 : decode prog_12_method_2_code 84 = .ok (.iconst 0, 1) := by decide +kernel
theorem d_Vw_load_85 : decode prog_12_method_2_code 85 = .ok (.putfield 76, 3) := by decide +kernel
theorem d_Vw_load_88 : decode prog_12_method_2_code 88 = .ok (.aload_n 0, 1) := by decide +kernel
theorem d_Vw_load_89 : decode prog_12_method_2_code 89 = .ok (.iconst 0, 1) := by decide +kernel
theorem d_Vw_load_90 : decode prog_12_method_2_code 90 = .ok (.putfield 79, 3) := by decide +kernel
theorem d_Vw_load_93 : decode prog_12_method_2_code 93 = .ok (.iconst 0, 1) := by decide +kernel
theorem d_Vw_load_94 : decode prog_12_method_2_code 94 = .ok (.istore_n 2, 1) := by decide +kernel
theorem d_Vw_load_95 : decode prog_12_method_2_code 95 = .ok (.iload_n 2, 1) := by decide +kernel
theorem d_Vw_load_96 : decode prog_12_method_2_code 96 = .ok (.aload_n 0, 1) := by decide +kernel
theorem d_Vw_load_97 : decode prog_12_method_2_code 97 = .ok (.getfield 34, 3) := by decide +kernel
theorem d_Vw_load_100 : decode prog_12_method_2_code 100 = .ok (.getfield 59, 3) := by decide +kernel
theorem d_Vw_load_103 : decode prog_12_method_2_code 103 = .ok (.if_icmp .ge 38, 3) := by decide +kernel
theorem d_Vw_load_106 : decode prog_12_method_2_code 106 = .ok (.aload_n 1, 1) := by decide +kernel
theorem d_Vw_load_107 : decode prog_12_method_2_code 107 = .ok (.aload_n 0, 1) := by decide +kernel
theorem d_Vw_load_108 : decode prog_12_method_2_code 108 = .ok (.getfield 34, 3) := by decide +kernel
theorem d_Vw_load_111 : decode prog_12_method_2_code 111 = .ok (.getfield 82, 3) := by decide +kernel
theorem d_Vw_load_114 : decode prog_12_method_2_code 114 = .ok (.iload_n 2, 1) := by decide +kernel
theorem d_Vw_load_115 : decode prog_12_method_2_code 115 = .ok (.iaload, 1) := by decide +kernel
theorem d_Vw_load_116 : decode prog_12_method_2_code 116 = .ok (.invokevirtual 62, 3) := by decide +kernel
theorem d_Vw_load_119 : decode prog_12_method_2_code 119 = .ok (.ifCond .eq 16, 3) := by decide +kernel
theorem d_Vw_load_122 : decode prog_12_method_2_code 122 = .ok (.aload_n 0, 1) := by decide +kernel
theorem d_Vw_load_123 : decode prog_12_method_2_code 123 = .ok (.aload_n 0, 1) := by decide +kernel
theorem d_Vw_load_124 : decode prog_12_method_2_code 124 = .ok (.getfield 34, 3) := by decide +kernel
theorem d_Vw_load_127 : decode prog_12_method_2_code 127 = .ok (.getfield 82, 3) := by decide +kernel
theorem d_Vw_load_130 : decode prog_12_method_2_code 130 = .ok (.iload_n 2, 1) := by decide +kernel
theorem d_Vw_load_131 : decode prog_12_method_2_code 131 = .ok (.iaload, 1) := by decide +kernel
theorem d_Vw_load_132 : decode prog_12_method_2_code 132 = .ok (.invokevirtual 85, 3) := by decide +kernel
theorem d_Vw_load_135 : decode prog_12_method_2_code 135 = .ok (.iinc 2 1, 3) := by decide +kernel
theorem d_Vw_load_138 : decode prog_12_method_2_code 138 = .ok (.goto (-43), 3) := by decide +kernel
theorem d_Vw_load_141 : decode prog_12_method_2_code 141 = .ok (.aload_n 0, 1) := by decide +kernel
theorem d_Vw_load_142 : decode prog_12_method_2_code 142 = .ok (.invokevirtual 88, 3) := by decide +kernel
theorem d_Vw_load_145 : decode prog_12_method_2_code 145 = .ok (.return_, 1) := by decide +kernel
def y_PS_fileAt : MethodName := ⟨"PatchStore", "fileAt", "(LPatchStore$Repository;I)I"⟩
abbrev c_PS_fileAt : Cond := (Jvm.Cond.code ({ cls := "PatchStore", name := "fileAt", desc := "(LPatchStore$Repository;I)I" } : Jvm.MethodName) prog_1_method_23_code (3 : Nat) (Option.some Jvm.ClassFile.FieldType.int))
abbrev ws_PS_fileAt : List Cond := c_PS_fileAt :: xg_1
theorem d_PS_fileAt_0 : decode prog_1_method_23_code 0 = .ok (.aload_n 0, 1) := by decide +kernel
theorem d_PS_fileAt_1 : decode prog_1_method_23_code 1 = .ok (.getfield 48, 3) := by decide +kernel
theorem d_PS_fileAt_4 : decode prog_1_method_23_code 4 = .ok (.aload_n 1, 1) := by decide +kernel
theorem d_PS_fileAt_5 : decode prog_1_method_23_code 5 = .ok (.invokevirtual 211, 3) := by decide +kernel
theorem d_PS_fileAt_8 : decode prog_1_method_23_code 8 = .ok (.iload_n 2, 1) := by decide +kernel
theorem d_PS_fileAt_9 : decode prog_1_method_23_code 9 = .ok (.ifCond .lt 14, 3) := by decide +kernel
theorem d_PS_fileAt_12 : decode prog_1_method_23_code 12 = .ok (.iload_n 2, 1) := by decide +kernel
theorem d_PS_fileAt_13 : decode prog_1_method_23_code 13 = .ok (.aload_n 0, 1) := by decide +kernel
theorem d_PS_fileAt_14 : decode prog_1_method_23_code 14 = .ok (.getfield 48, 3) := by decide +kernel
theorem d_PS_fileAt_17 : decode prog_1_method_23_code 17 = .ok (.getfield 214, 3) := by decide +kernel
theorem d_PS_fileAt_20 : decode prog_1_method_23_code 20 = .ok (.if_icmp .lt 11, 3) := by decide +kernel
theorem d_PS_fileAt_23 : decode prog_1_method_23_code 23 = .ok (.new 174, 3) := by decide +kernel
theorem d_PS_fileAt_26 : decode prog_1_method_23_code 26 = .ok (.dup, 1) := by decide +kernel
theorem d_PS_fileAt_27 : decode prog_1_method_23_code 27 = .ok (.invokespecial 176, 3) := by decide +kernel
theorem d_PS_fileAt_30 : decode prog_1_method_23_code 30 = .ok (.athrow, 1) := by decide +kernel
theorem d_PS_fileAt_31 : decode prog_1_method_23_code 31 = .ok (.aload_n 0, 1) := by decide +kernel
theorem d_PS_fileAt_32 : decode prog_1_method_23_code 32 = .ok (.getfield 48, 3) := by decide +kernel
theorem d_PS_fileAt_35 : decode prog_1_method_23_code 35 = .ok (.getfield 288, 3) := by decide +kernel
theorem d_PS_fileAt_38 : decode prog_1_method_23_code 38 = .ok (.iload_n 2, 1) := by decide +kernel
theorem d_PS_fileAt_39 : decode prog_1_method_23_code 39 = .ok (.iaload, 1) := by decide +kernel
theorem d_PS_fileAt_40 : decode prog_1_method_23_code 40 = .ok (.ireturn, 1) := by decide +kernel
set_option maxHeartbeats 4000000 in
set_option maxRecDepth 100000 in
/-- Arrays.fill -/
theorem m_Ar_fill (l : Launch) (dC : Nat → ClassId) (dI : Nat → Nat → Nat) (cI cB cL cZ cR : ClassId) (ar N : Nat) (f0 : Nat → Int32) (x : Int32) (sz : Nat) (hN : N < 2 ^ 31) : Met l y_Ar_fill0 ws_Ar_fill0 ({ frames := 0, cells := 0, slots := 0, locals := 0 }) (xw_Pc dC dI [(cI, .int), (cB, .byte), (cL, .long), (cZ, .boolean), (cR, .object "PatchStore$Repository")] [.ref ar, .int x] [(ar, .inl (cI, N, .inl f0))] sz) (va_Qv (fun u : Nat → Int32 => ∀ j, j < N → u j = x) (fun u t => xw_B dC dI [(cI, .int), (cB, .byte), (cL, .long), (cZ, .boolean), (cR, .object "PatchStore$Repository")] (va_A [(ar, .inl (cI, N, .inl f0))] sz) [(ar, .inl (cI, N, .inl u))] t) (va_A [(ar, .inl (cI, N, .inl f0))] sz)) 0 0 (va_A [(ar, .inl (cI, N, .inl f0))] sz) := by
  refine Met.ofW (cc := prog_36_method_103_code) (maxL := 4) (ret := none) (by decide) rfl ?_
  intro p e s m args below meth c s₁ B hml hv
  obtain ⟨rfl, hsz, hP, hK, hD0⟩ := hv
  have hx := B.exec
  have hb := B.bytes
  have hr := B.returns
  have hts0 := atoms_spec (ws := ws_Ar_fill0) B.pre
  have hts : ∀ w ∈ xg_1, w.before _ s = true := fun w h => hts0 w (List.mem_cons_of_mem _ h)
  have hown : s.vm.findClass "java/util/Arrays" = some m.cls := findClass_of_methodNamed B.named
  have hlocks := B.notSynchronized
  subst hsz
  have hD := hD0.self (sz := s.heap.size)
  generalize hAe : va_A [(ar, .inl (cI, N, .inl f0))] s.heap.size = A at hD ⊢
  have hA : ∀ q : Nat, s.heap.size ≤ q → A q := fun q h => by rw [← hAe]; exact Or.inr h
  have hS : va_S A s.heap s.heap [] := va_S.rf
  have hl := lv_entry ([.ref ar, .int x]) (n := 4) (Nat.le_of_ble_eq_true rfl)
  rw [lg_entry_eq]
  generalize (lg_sl ([.ref ar, .int x]) ++ List.replicate (4 - (lg_sl ([.ref ar, .int x])).length) Slot.unset).toArray = ls at hl ⊢
  have hl : lv_has ls 4 [(0, .ref ar), (1, .int x)] := hl
  generalize hQe : MQ _ _ _ _ _ _ _ = Q
  refine lv_iconst (v := 0) hx hb d_Ar_fill0_0 (by decide) ?_
  refine lv_istore_n (lv' := [(2, .int 0), (0, .ref ar), (1, .int x)]) hx hb d_Ar_fill0_1 rfl hl (by decide) rfl (fun ls hl => ?_)
  refine lv_aload_n hx hb d_Ar_fill0_2 rfl (lv_at hl 1 rfl) ?_
  refine va_alen (v := nI N) hx hb hK hP 0 0 rfl rfl rfl d_Ar_fill0_3 ?_
  refine lv_istore_n (lv' := [(3, .int (nI N)), (2, .int 0), (0, .ref ar), (1, .int x)]) hx hb d_Ar_fill0_4 rfl hl (by decide) rfl (fun ls hl => ?_)
  have loop_5 : ∀ (n : Nat) (k : Nat) (f : Nat → Int32) (H : Heap) (locs : List Loc) (ls : Array Slot), N - k < n → (k ≤ N) → (∀ j, j < k → f j = x) → va_P (dC, dI) classes [(ar, .inl (cI, N, .inl f))] H → va_D A [(ar, .inl (cI, N, .inl f))] → va_S A s.heap H locs → lv_has ls 4 [(0, .ref ar), (1, .int x), (2, .int (nI k)), (3, .int (nI N))] → W p l e (headSpec ws_Ar_fill0 ({ frames := 0, cells := 0, slots := 0, locals := 0 })).room s m ([.ref ar, .int x] : List Value).toArray below meth c H locs 0 0 Q (F0 m 5 ls []) := by
    intro n
    induction n with
    | zero => intro k f H locs ls hm; exact absurd hm (Nat.not_lt_zero _)
    | succ n ih_5 =>
      intro k f H locs ls hm hk hf hP hD hS hl
      refine lv_iload_n hx hb d_Ar_fill0_5 rfl (lv_at hl 2 rfl) ?_
      refine lv_iload_n hx hb d_Ar_fill0_6 rfl (lv_at hl 3 rfl) ?_
      refine lv_icmp_ge (tgt := 20) hx hb d_Ar_fill0_7 (by decide) (fun c_7 => ?_) (fun c_7 => ?_)
      · have hk8 : k = N := by have := (nI_leI (a := N) (b := k) (by omega) (by omega)).mp c_7; omega
        rw [hk8] at hf
        rw [← hQe]
        exact W.vret hx hb hr (fun t ht hW => ⟨⟨f, rfl, hf, by rw [ht]; exact hP, va_K.moved hW.alike hK, hD⟩, hS.F ht⟩) hS.2.2 d_Ar_fill0_20
      · have hk8 : k < N := by rcases Nat.lt_or_ge k N with z | z; exact z; exact absurd (nI_le (a := N) z (by omega)) c_7
        refine lv_aload_n hx hb d_Ar_fill0_10 rfl (lv_at hl 0 rfl) ?_
        refine lv_iload_n hx hb d_Ar_fill0_11 rfl (lv_at hl 2 rfl) ?_
        refine lv_iload_n hx hb d_Ar_fill0_12 rfl (lv_at hl 1 rfl) ?_
        refine va_iast hx hb hK hP hD hS 0 0 rfl rfl (vp_in_nI (by omega) (by omega)) d_Ar_fill0_13 (fun H locs hP hD hS => ?_)
        rw [show (nI k).toNatClampNeg = k from nI_clamp (by omega)] at hP hD
        have hP : va_P (dC, dI) classes [(ar, .inl (cI, N, .inl (upd f k x)))] H := hP
        have hD : va_D A [(ar, .inl (cI, N, .inl (upd f k x)))] := hD
        refine lv_iinc (v := nI (k + 1)) (lv' := [(2, .int (nI (k + 1))), (0, .ref ar), (1, .int x), (3, .int (nI N))]) hx hb d_Ar_fill0_14 hl (k := 2) rfl (by exact nI_1 k) (by decide) rfl (fun ls hl => ?_)
        refine lv_goto (tgt := 5) hx hb d_Ar_fill0_17 (by decide) ?_
        exact ih_5 (k + 1) (upd f k x) _ _ _ (by omega) (by omega) (lt_s (fun a ha => by rw [pk_un (by omega)]; exact hf a ha) (by rw [pk_us])) hP hD hS (lv_sub hl [1, 2, 0, 3] rfl)
  exact loop_5 _ 0 f0 _ _ _ (Nat.lt_succ_self _) (Nat.zero_le _) (fun j hj => absurd hj (Nat.not_lt_zero j)) hP hD hS (lv_sub hl [2, 3, 1, 0] rfl)
end
