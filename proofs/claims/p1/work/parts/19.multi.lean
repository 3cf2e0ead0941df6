/-! multianewarray of two dimensions: the outer array, then the rows one by one, each noted in the outer one -/
def xm_row (comp : ClassId) (M : Nat) (dv : Value) : Cell := { cls := comp, slots := Array.replicate M dv, vm := .none }
def xm_o (c : ClassId) (N h : Nat) : Nat → Cell
  | 0 => { cls := c, slots := Array.replicate N .null, vm := .none }
  | i + 1 => (xm_o c N h i).setSlot i (.ref (h + 1 + i))
def xm_f (T : State) (c comp : ClassId) (N M : Nat) (dv : Value) : Nat → State
  | 0 => T.pushCell (xm_o c N T.heap.size 0)
  | i + 1 => ((xm_f T c comp N M dv i).pushCell (xm_row comp M dv)).setCell T.heap.size (xm_o c N T.heap.size (i + 1))
theorem xm_o_is (c : ClassId) (N h i : Nat) : (xm_o c N h i).cls = c ∧ (xm_o c N h i).vm = .none ∧ (xm_o c N h i).slots.size = N ∧ ∀ j, j < N → (xm_o c N h i).slots[j]? = some (if j < i then .ref (h + 1 + j) else .null) := by
  induction i with
  | zero => exact ⟨rfl, rfl, by simp [xm_o], fun j hj => by simp [xm_o, hj]⟩
  | succ i ih =>
    obtain ⟨h1, h2, h3, h4⟩ := ih
    refine ⟨h1, h2, by simp [xm_o, Cell.setSlot, h3], fun j hj => ?_⟩
    have h5 := h4 j hj
    simp only [xm_o, Cell.setSlot, Array.getElem?_setIfInBounds]
    by_cases e : i = j
    · subst e; simp [h3, hj]
    · rw [if_neg e, h5]
      by_cases hlt : j < i
      · rw [if_pos hlt, if_pos (by omega)]
      · rw [if_neg hlt, if_neg (by omega)]
theorem xm_f_is (T : State) (c comp : ClassId) (N M : Nat) (dv : Value) (i : Nat) : (xm_f T c comp N M dv i).heap.size = T.heap.size + 1 + i ∧ (xm_f T c comp N M dv i).heap[T.heap.size]? = some (xm_o c N T.heap.size i) ∧ (xm_f T c comp N M dv i).vm = T.vm ∧ (xm_f T c comp N M dv i).slotsUsed = T.slotsUsed + N + i * M ∧
    (∀ a, a < T.heap.size → (xm_f T c comp N M dv i).heap[a]? = T.heap[a]?) ∧ (∀ j, j < i → (xm_f T c comp N M dv i).heap[T.heap.size + 1 + j]? = some (xm_row comp M dv)) := by
  induction i with
  | zero => exact ⟨by simp [xm_f], by simp [xm_f], rfl, by simp [xm_f, xm_o], fun a ha => State.heap_pushCell_of_lt _ _ ha, fun j hj => absurd hj (Nat.not_lt_zero j)⟩
  | succ i ih =>
    obtain ⟨h1, h2, h3, h4, h5, h6⟩ := ih
    have hlt : T.heap.size < (xm_f T c comp N M dv i).heap.size := by omega
    have hp : ((xm_f T c comp N M dv i).pushCell (xm_row comp M dv)).heap[T.heap.size]? = some (xm_o c N T.heap.size i) := by rw [State.heap_pushCell_of_lt (h := hlt)]; exact h2
    refine ⟨by simp [xm_f, State.setCell, h1]; omega, State.heap_setCell_self hp, by simp [xm_f, h3], by simp [xm_f, h4, xm_row, Nat.succ_mul]; omega, fun a ha => ?_, fun j hj => ?_⟩
    · show (((xm_f T c comp N M dv i).pushCell (xm_row comp M dv)).setCell T.heap.size _).heap[a]? = _
      have hlt2 : a < (xm_f T c comp N M dv i).heap.size := by omega
      rw [State.heap_setCell_other (Nat.ne_of_gt ha), State.heap_pushCell_of_lt (h := hlt2)]
      exact h5 a ha
    · show (((xm_f T c comp N M dv i).pushCell (xm_row comp M dv)).setCell T.heap.size _).heap[T.heap.size + 1 + j]? = _
      rw [State.heap_setCell_other (show T.heap.size ≠ T.heap.size + 1 + j by omega)]
      by_cases e : j < i
      · have hlt2 : T.heap.size + 1 + j < (xm_f T c comp N M dv i).heap.size := by omega
        rw [State.heap_pushCell_of_lt (h := hlt2)]; exact h6 j e
      · rw [show T.heap.size + 1 + j = (xm_f T c comp N M dv i).heap.size by omega]; exact State.heap_pushCell_size _ _
theorem xm_f_top (T : State) (f : JFrame) (c comp : ClassId) (N M : Nat) (dv : Value) (i : Nat) : xm_f (T.setTop f) c comp N M dv i = (xm_f T c comp N M dv i).setTop f := by
  induction i with
  | zero => rfl
  | succ i ih => simp only [xm_f, ih, State.heap_setTop, State.pushCell_setTop, State.setCell_setTop]
section XM1
variable {E : CtlPost} {e : Env} {d : Bool} {acts : List Action} {s : State}
theorem xm_new {c comp : ClassId} {k : Class} {ty : FieldType} {n : Nat} {v : Value} (hk : s.vm.classes[c]? = some k) (hkind : k.kind = .array comp ty) (hl : ¬ n > e.platform.arrayLengthLimit) (hh : ¬ n * componentBytes ty > e.platform.maxHeapBytes) (hfit : fits ty v = true) (hdef : v.isDefault = true)
    (h1 : s.heap.size < e.platform.maxCells) (h2 : s.slotsUsed + n ≤ e.platform.maxSlots) {Q : Addr → Pre} (hq : Q s.heap.size d acts (s.pushCell { cls := c, slots := Array.replicate n v, vm := .none })) : wp (Jvm.newArray c n v) Q E e d acts s := by
  have hf : ∀ i w, (Array.replicate n v)[i]? = some w → s.fitsSlot c .none i w = true := by
    intro i w hw
    rw [Array.getElem?_replicate] at hw
    split at hw
    · cases hw; simp [State.fitsSlot, State.slotType?, hk, hkind, hfit]
    · cases hw
  have ha : allocActs (Array.replicate n v) s.heap.size acts = acts := by
    have : ((Array.replicate n v).all (·.isDefault)) = true := by rw [Array.all_replicate]; split <;> simp [hdef]
    unfold allocActs; rw [if_pos this]
  simp only [Jvm.newArray, Jvm.arrayFits, wp_bind', W.ask, W.ite, hl, if_false, wp_pure', W.theClass, hk, hkind, hh, W.alloc, W.stop, Option.some.injEq, exists_eq_left', Array.size_replicate, ha]
  rw [if_neg (by omega)]
  exact ⟨h1, h2, hf, hq⟩
theorem xm_reff {t : FieldType} (v : Value) (hv : v = .null ∨ ∃ a, v = .ref a) : fits (.array t) v = true := by
  rcases hv with rfl | ⟨a, rfl⟩ <;> rfl
theorem xm_make {c comp cc : ClassId} {k kc : Class} {ty : FieldType} {n m : Int32} (hk : s.vm.classes[c]? = some k) (hkind : k.kind = .array comp (.array ty)) (hkc : s.vm.classes[comp]? = some kc) (hkindc : kc.kind = .array cc ty) (hn : ¬ n < 0) (hm : ¬ m < 0)
    (hl1 : ¬ n.toNatClampNeg > e.platform.arrayLengthLimit) (hh1 : ¬ n.toNatClampNeg * componentBytes (.array ty) > e.platform.maxHeapBytes) (hl2 : ¬ m.toNatClampNeg > e.platform.arrayLengthLimit) (hh2 : ¬ m.toNatClampNeg * componentBytes ty > e.platform.maxHeapBytes)
    (hdf : fits ty (defaultValue ty) = true) (hdd : (defaultValue ty).isDefault = true) (hc : s.heap.size + 1 + n.toNatClampNeg ≤ e.platform.maxCells) (hs : s.slotsUsed + n.toNatClampNeg + n.toNatClampNeg * m.toNatClampNeg ≤ e.platform.maxSlots)
    {Q : Addr → Pre} (hq : ∀ d' acts', Q s.heap.size d' acts' (xm_f s c comp n.toNatClampNeg m.toNatClampNeg (defaultValue ty) n.toNatClampNeg)) : wp (multianewarray.make c [n, m]) Q E e d acts s := by
  have hnone : ([m].find? (· < 0)) = none := by simp [hm]
  rw [multianewarray.make]
  simp only [wp_bind', W.ite, hn, if_false, wp_pure', W.theClass, hk, hkind, Option.some.injEq, exists_eq_left']
  refine xm_new hk hkind hl1 hh1 (xm_reff _ (Or.inl rfl)) rfl (by omega) (by have := Nat.zero_le (n.toNatClampNeg * m.toNatClampNeg); omega) ?_
  simp only [hnone]
  rw [ite_self, wp_bind', Std.Legacy.Range.forIn_eq_forIn_range']
  rw [show ([:n.toNatClampNeg] : Std.Legacy.Range).size = n.toNatClampNeg by simp [Std.Legacy.Range.size]]
  show wp (forIn (List.range' 0 n.toNatClampNeg 1) PUnit.unit _) _ E e d acts _
  generalize hNe : n.toNatClampNeg = N at *
  generalize hMe : m.toNatClampNeg = M at *
  refine wp_forIn_inv (fun rest s' => ∃ i, i ≤ N ∧ rest = List.range' i (N - i) ∧ s' = xm_f s c comp N M (defaultValue ty) i) _ _ ⟨0, Nat.zero_le _, rfl, rfl⟩ ?_ ?_
  · rintro x rest s' d' acts' Q' ⟨i, hi, hl, rfl⟩ hnext
    have hlt : i < N := by
      rcases Nat.lt_or_ge i N with h | h
      · exact h
      · rw [show N - i = 0 by omega] at hl; simp at hl
    rw [show N - i = (N - (i + 1)) + 1 by omega, List.range'_succ] at hl
    obtain ⟨rfl, hrest⟩ := List.cons.inj hl
    obtain ⟨f1, f2, f3, f4, f5, f6⟩ := xm_f_is s c comp N M (defaultValue ty) x
    obtain ⟨o1, o2, o3, o4⟩ := xm_o_is c N s.heap.size x
    have hmul : x * M + M ≤ N * M := by
      have := Nat.mul_le_mul_right M (show x + 1 ≤ N from hlt)
      rw [Nat.succ_mul] at this; exact this
    simp only [wp_bind']
    rw [multianewarray.make]
    simp only [wp_bind', W.ite, hm, if_false, wp_pure', W.theClass, f3, hkc, hkindc, Option.some.injEq, exists_eq_left', hMe]
    refine xm_new (by rw [f3]; exact hkc) hkindc hl2 hh2 hdf hdd (by rw [f1]; omega) (by rw [f4]; omega) ?_
    simp only [wp_bind', W.writeLoc, wp_pure']
    have hlt2 : s.heap.size < (xm_f s c comp N M (defaultValue ty) x).heap.size := by omega
    refine ⟨xm_o c N s.heap.size x, by rw [State.heap_pushCell_of_lt (h := hlt2)]; exact f2, by rw [o2]; simp, by rw [o3]; exact hlt, ?_, hnext _ _ _ ⟨x + 1, hlt, hrest, ?_⟩⟩
    · rw [o1, o2]
      simp [State.fitsSlot, State.slotType?, f3, hk, hkind, xm_reff _ (Or.inr ⟨_, rfl⟩)]
    · rw [f1]; rfl
  · rintro s' d' acts' ⟨i, hi, hl, rfl⟩
    have hiN : i = N := by
      rcases Nat.lt_or_ge i N with h | h
      · rw [show N - i = (N - (i + 1)) + 1 by omega, List.range'_succ] at hl; cases hl
      · omega
    subst hiN
    simp only [wp_pure']
    exact hq _ _
end XM1
section XM2
variable {p : Program} {l : Launch} {e : Env} {R : Room} {s : State} {m : MethodId} {args : Array Value} {below : List Frame} {meth : Method} {c : Code} {H : Heap} {locs : List Loc} {cells slots : Nat} {Q : State → Prop}
theorem xm_stand {T : State} (X : Stand p l e R s m args below meth c T locs cells slots) (cA comp : ClassId) (N M : Nat) (dv : Value) (i : Nat) : Stand p l e R s m args below meth c (xm_f T cA comp N M dv i) (locs ++ (List.range i).map fun j => ⟨T.heap.size, j⟩) (cells + 1 + i) (slots + N + i * M) := by
  induction i with
  | zero =>
    have h := X.pushed (xm_o cA N T.heap.size 0)
    rw [(xm_o_is cA N T.heap.size 0).2.2.1] at h
    simpa [xm_f] using h
  | succ i ih =>
    obtain ⟨f1, f2, f3, f4, f5, f6⟩ := xm_f_is T cA comp N M dv i
    have hcell : ((xm_f T cA comp N M dv i).pushCell (xm_row comp M dv)).heap[T.heap.size]? = some (xm_o cA N T.heap.size i) := by
      have hlt2 : T.heap.size < (xm_f T cA comp N M dv i).heap.size := by omega
      rw [State.heap_pushCell_of_lt (h := hlt2)]; exact f2
    have h := (ih.pushed (xm_row comp M dv)).stored hcell i (.ref (T.heap.size + 1 + i))
    rw [show (xm_row comp M dv).slots.size = M by simp [xm_row]] at h
    rw [show (locs ++ (List.range (i + 1)).map fun j => (⟨T.heap.size, j⟩ : Loc)) = (locs ++ (List.range i).map fun j => (⟨T.heap.size, j⟩ : Loc)) ++ [⟨T.heap.size, i⟩] by simp [List.range_succ, List.append_assoc], show slots + N + (i + 1) * M = slots + N + i * M + M by rw [Nat.succ_mul]; omega]
    exact h
/-- the row: an outer array of N rows of M places each, all new, behind the old heap -/
theorem xm_multi {cc : ByteArray} (hexec : p.tables.exec = Jvm.exec) (hb : c.code = cc) {own : String} {index : Nat} {ty : FieldType} (hown : s.vm.findClass own = some m.cls) (hclink : (Cond.classLink own index ("[" ++ (FieldType.array ty).toString)).before args s = true) (hover : (Cond.arrayOver (.array ty)).before args s = true) (harr : (Cond.arrayClass ty).before args s = true)
    {pc : Nat} {ls : Array Slot} {rest : List Value} (hdg : decode cc pc = .ok (.multianewarray index 2, 4)) {n k : Int32} {N M : Nat} (hN : n.toNatClampNeg = N) (hM : k.toNatClampNeg = M) (hn : ¬ n < 0) (hk : ¬ k < 0) (hb1 : N * 4 ≤ 536870912) (hb2 : M * componentBytes ty ≤ 536870912) (hb3 : M ≤ 536870912)
    (hdf : fits ty (defaultValue ty) = true) (hdd : (defaultValue ty).isDefault = true) (hcells : cells + (1 + N) ≤ R.cells) (hslots : slots + (N + N * M) ≤ R.slots) (hsz : s.heap.size ≤ H.size)
    (kk : ∀ (H1 : Heap) (cA comp : ClassId), s.vm.findClass ("[" ++ (FieldType.array ty).toString) = some cA → s.vm.findClass (FieldType.array ty).toString = some comp → H1.size = H.size + 1 + N → (∀ a, a < H.size → H1[a]? = H[a]?) → H1[H.size]? = some (xm_o cA N H.size N) → (∀ j, j < N → H1[H.size + 1 + j]? = some (xm_row comp M (defaultValue ty))) →
      W p l e R s m args below meth c H1 locs (cells + (1 + N)) (slots + (N + N * M)) Q (F0 m (pc + 4) ls (.ref H.size :: rest))) : W p l e R s m args below meth c H locs cells slots Q (F0 m pc ls (.int k :: .int n :: rest)) := by
  intro T hT X
  subst hT; subst hb; subst hN; subst hM
  have hpl : e.platform.magicAccessors = ({} : Platform).magicAccessors := by rw [X.admits.platform]
  obtain ⟨comp, cA, kA, hcomp, -, hkA, hkindA, hnameA⟩ := arrayOverA_spec hover
  obtain ⟨comp2, kC, c3, hcomp2, hkC, hkindC⟩ := Cond.arrayClass_spec harr
  have ec : comp2 = comp := Option.some.inj (hcomp2.symm.trans hcomp)
  subst ec
  obtain ⟨c0, hfc0, hcl⟩ := Cond.classLink_spec hown hclink e.platform hpl
  cases hnameA.symm.trans hfc0
  obtain ⟨hg₁, hwarm₁, hready₁⟩ := State.classEntry (e := e) X.warmed hcl
  generalize T.vm.noted m.cls index (.cls cA) = vm₁ at hg₁ hwarm₁ hready₁
  obtain ⟨kA₁, hkA₁, heA⟩ := hwarm₁.alike.2.2 _ _ hkA
  obtain ⟨kC₁, hkC₁, heC⟩ := hwarm₁.alike.2.2 _ _ hkC
  have X₁ := X.noted hwarm₁
  have r1 := X.cellsAbove (n := 1 + n.toNatClampNeg) hcells
  have r2 := X.slotsAbove (n := n.toNatClampNeg + n.toNatClampNeg * k.toNatClampNeg) hslots
  have XF := xm_stand X₁ cA comp2 n.toNatClampNeg k.toNatClampNeg (defaultValue ty) n.toNatClampNeg
  obtain ⟨f1, f2, f3, f4, f5, f6⟩ := xm_f_is (T.setVm vm₁) cA comp2 n.toNatClampNeg k.toNatClampNeg (defaultValue ty) n.toNatClampNeg
  have XG := Stand.forget (extra := (List.range n.toNatClampNeg).map fun j => (⟨T.heap.size, j⟩ : Loc)) XF (fun q hq => by
    obtain ⟨j, -, rfl⟩ := List.mem_map.mp hq
    exact hsz)
  obtain ⟨t, a1, b1⟩ := kk _ cA comp2 hnameA hcomp f1 f5 f2 f6 _ rfl (by rw [show cells + (1 + n.toNatClampNeg) = cells + 1 + n.toNatClampNeg by omega, show slots + (n.toNatClampNeg + n.toNatClampNeg * k.toNatClampNeg) = slots + n.toNatClampNeg + n.toNatClampNeg * k.toNatClampNeg by omega]; exact XG)
  refine ⟨t, ?_, b1⟩
  have hl1 : ¬ n.toNatClampNeg > e.platform.arrayLengthLimit := by rw [Launch.admits_arrayLengthLimit X.admits]; omega
  have hh1 : ¬ n.toNatClampNeg * componentBytes (.array ty) > e.platform.maxHeapBytes := by
    rw [Launch.admits_maxHeapBytes X.admits]; show ¬ n.toNatClampNeg * 4 > 536870912; omega
  have hl2 : ¬ k.toNatClampNeg > e.platform.arrayLengthLimit := by rw [Launch.admits_arrayLengthLimit X.admits]; omega
  have hh2 : ¬ k.toNatClampNeg * componentBytes ty > e.platform.maxHeapBytes := by rw [Launch.admits_maxHeapBytes X.admits]; omega
  jvm_step X.here [hexec, hdg]
  simp only [multianewarray.sem, wp_bind', W.resolveClassAt_links (State.method?_setTop (F0 m pc ls (.int k :: .int n :: rest)) X.here.top) hg₁]
  rw [W.popN, if_neg (by decide)]
  refine ⟨F0 m pc ls (.int k :: .int n :: rest), State.topJava?_setTop' (s := T.setVm vm₁) _ X.here.top, [.int n, .int k], rest, rfl, rfl, ?_⟩
  simp only [List.mapM_cons, List.mapM_nil, wp_bind', wp_pure']
  refine xm_make (k := kA₁) (kc := kC₁) (comp := comp2) (cc := c3) (ty := ty) hkA₁ (by rw [heA]; exact hkindA) hkC₁ (by rw [heC]; exact hkindC) hn hk hl1 hh1 hl2 hh2 hdf hdd (by show T.heap.size + 1 + _ ≤ _; omega) (by show T.slotsUsed + _ + _ ≤ _; omega) (fun d' acts' => ?_)
  have eS : ((T.setTop (F0 m pc ls (.int k :: .int n :: rest))).setVm vm₁).setTop (F0 m pc ls rest) = (T.setVm vm₁).setTop (F0 m pc ls rest) := by
    show ((T.setVm vm₁).setTop _).setTop _ = _
    rw [State.setTop_setTop]
  show wp _ _ _ _ _ _ (xm_f (((T.setTop (F0 m pc ls (.int k :: .int n :: rest))).setVm vm₁).setTop (F0 m pc ls rest)) _ _ _ _ _ _)
  rw [eS, xm_f_top]
  simp only [wp_bind', W.mark, W.pushRef, State.topJava?_setTop' _ XF.here.top, Option.some.injEq, exists_eq_left', State.setTop_setTop, State.heap_setTop]
  intro acts
  simp [jvm, XF.here.top]
  exact a1
end XM2
