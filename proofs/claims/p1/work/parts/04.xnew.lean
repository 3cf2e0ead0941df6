/-! XC: 'throw new C()', without a trace -/
/-- Throwable's static field n is there, holds a reference or null, and lies outside A -/
def xc_Zs (A : Nat → Prop) (U : State) (H : Heap) (n d : String) : Prop := ∃ (c : ClassId) (k : Class) (i : Nat) (f : Field) (a : Nat) (cell : Cell) (v : Value), U.vm.findClass Bundle.tN = some c ∧ U.fieldFound? Bundle.tN n d = some (c, k, i, f) ∧ f.isStatic = true ∧ k.statics = some a ∧ H[a]? = some cell ∧ cell.vm.isStatics = true ∧ cell.cls = c ∧
  f.slot < cell.slots.size ∧ k.staticTypes[f.slot]? = some f.type ∧ cell.slots[f.slot]? = some v ∧ (v = .null ∨ ∃ r, v = .ref r) ∧ ¬ A a
theorem xc_Zs.kept {A : Nat → Prop} {U : State} {H H1 : Heap} {n d : String} (h : xc_Zs A U H n d) (hq : ∀ a : Nat, a < H.size → ¬ A a → H1[a]? = H[a]?) : xc_Zs A U H1 n d := by
  obtain ⟨c, k, i, f, a, cell, v, h1, h2, h3, h4, h5, h6, h7, h8, h9, h10, h11, h12⟩ := h
  exact ⟨c, k, i, f, a, cell, v, h1, h2, h3, h4, by rw [hq a (Array.getElem?_eq_some_iff.mp h5).1 h12]; exact h5, h6, h7, h8, h9, h10, h11, h12⟩
theorem xc_Zs.narrow {A B : Nat → Prop} {U : State} {H : Heap} {n d : String} (h : xc_Zs A U H n d) (hAB : ∀ q, q < H.size → B q → A q) : xc_Zs B U H n d := by
  obtain ⟨c, k, i, f, a, cell, v, h1, h2, h3, h4, h5, h6, h7, h8, h9, h10, h11, h12⟩ := h
  exact ⟨c, k, i, f, a, cell, v, h1, h2, h3, h4, h5, h6, h7, h8, h9, h10, h11, fun z => h12 (hAB a (Array.getElem?_eq_some_iff.mp h5).1 z)⟩
theorem xc_Zs.moved {A : Nat → Prop} {u U : State} {H : Heap} {n d : String} (hvm : u.vm.Alike U.vm) (h : xc_Zs A u H n d) : xc_Zs A U H n d := by
  obtain ⟨c, k, i, f, a, cell, v, h1, h2, h3, h4, h5, h6, h7, h8, h9, h10, h11, h12⟩ := h
  obtain ⟨k', hi', he⟩ := State.fieldFound?_setVm hvm h2
  exact ⟨c, k', i, f, a, cell, v, by rw [hvm.findClass]; exact h1, hi', h3, by rw [he]; exact h4, h5, h6, h7, h8, by rw [he]; exact h9, h10, h11, h12⟩
theorem xc_Zs.of {A : Nat → Prop} {args : Array Value} {s : State} {n d : String} (hl : (Cond.laysStatic Bundle.tN n d).before args s = true) (hr : (Cond.isRef (.static Bundle.tN n d)).before args s = true) (hA : ∀ a : Nat, a < s.heap.size → ¬ A a) : xc_Zs A s s.heap n d := by
  obtain ⟨c, k, i, f, a, cell, g1, g2, g3, g4, g5, g6, g7, g8, g9⟩ := Cond.laysStatic_spec hl
  have hv : ∃ v, cell.slots[f.slot]? = some v ∧ (v = .null ∨ ∃ r, v = .ref r) := by
    have he : (Term.static Bundle.tN n d).eval args s none [] s = cell.slots[f.slot]? := by
      simp [Term.eval, State.fieldNamed?, g2, g3, g4, g5, g6]
    have hr' : (Cond.isRef (.static Bundle.tN n d)).holds args s none s [] = true := hr
    simp only [Cond.holds, Cond.value, he] at hr'
    cases hs : cell.slots[f.slot]? with
    | none => rw [hs] at hr'; simp at hr'
    | some v => rw [hs] at hr'; cases v <;> simp at hr' <;> first | exact ⟨_, rfl, Or.inl rfl⟩ | exact ⟨_, rfl, Or.inr ⟨_, rfl⟩⟩
  obtain ⟨v, hv1, hv2⟩ := hv
  exact ⟨c, k, i, f, a, cell, v, g1, g2, g3, g4, g5, g6, g7, g8, g9, hv1, hv2, hA a (Array.getElem?_eq_some_iff.mp g5).1⟩
theorem xc_Zs.words {A : Nat → Prop} {U V : State} {n d : String} {args : Array Value} (h : xc_Zs A U V.heap n d) (hvm : U.vm.Alike V.vm) : (Cond.laysStatic Bundle.tN n d).before args V = true ∧ (Cond.isRef (.static Bundle.tN n d)).before args V = true := by
  obtain ⟨c, k, i, f, a, cell, v, h1, h2, h3, h4, h5, h6, h7, h8, h9, h10, h11, -⟩ := h.moved hvm
  constructor
  · simp [Cond.before, Cond.holds, Cond.value, h1, h2, h3, h4, h5, h6, h7, h8, h9]
  · have he : (Term.static Bundle.tN n d).eval args V none [] V = some v := by
      simp [Term.eval, State.fieldNamed?, h2, h3, h4, h5, h6, h10]
    rcases h11 with rfl | ⟨r, rfl⟩ <;> simp [Cond.before, Cond.holds, Cond.value, he]
/-- what 'throw new' needs of Throwable's statics -/
def xc_Th (A : Nat → Prop) (U : State) (H : Heap) : Prop := xc_Zs A U H "UNASSIGNED_STACK" Bundle.steD ∧ xc_Zs A U H "SUPPRESSED_SENTINEL" Bundle.listD
theorem xc_Th.kept {A : Nat → Prop} {U : State} {H H1 : Heap} (h : xc_Th A U H) (hq : ∀ a : Nat, a < H.size → ¬ A a → H1[a]? = H[a]?) : xc_Th A U H1 := ⟨h.1.kept hq, h.2.kept hq⟩
theorem xc_Th.narrow {A B : Nat → Prop} {U : State} {H : Heap} (h : xc_Th A U H) (hAB : ∀ q, q < H.size → B q → A q) : xc_Th B U H := ⟨h.1.narrow hAB, h.2.narrow hAB⟩
theorem xc_Th.moved {A : Nat → Prop} {u U : State} {H : Heap} (hvm : u.vm.Alike U.vm) (h : xc_Th A u H) : xc_Th A U H := ⟨h.1.moved hvm, h.2.moved hvm⟩
/-- the words of 'throw new C()' that speak of the tables alone -/
def xc_ws (own : String) (i1 i2 : Nat) (C : String) (names : List String) : List Cond :=
  (Cond.classLink own i1 C) :: (Cond.initialized C) :: (Bundle.ownAtoms0 own i2 C names).filter (fun w => w.onTables)
def xc_heapw : List Cond := [.laysStatic Bundle.tN "UNASSIGNED_STACK" Bundle.steD, .laysStatic Bundle.tN "SUPPRESSED_SENTINEL" Bundle.listD, .isRef (.static Bundle.tN "UNASSIGNED_STACK" Bundle.steD), .isRef (.static Bundle.tN "SUPPRESSED_SENTINEL" Bundle.listD)]
theorem xc_sf {s T : State} (h : T.setVm s.vm = { s.setFrames T.frames with heap := T.heap, slotsUsed := T.slotsUsed }) (F : List Frame) (h1 : Heap) (n1 : Nat) : ({ T.setFrames F with heap := h1, slotsUsed := n1 } : State) = ({ s.setFrames F with heap := h1, slotsUsed := n1 } : State).setVm T.vm := by
  have e0 := congrArg (fun z : State => z.setVm T.vm) h
  have e : T = ({ s.setFrames T.frames with heap := T.heap, slotsUsed := T.slotsUsed } : State).setVm T.vm := e0
  clear e0 h
  generalize T.vm = v0 at e ⊢
  generalize T.frames = F0 at e
  generalize T.heap = h0 at e
  generalize T.slotsUsed = n0 at e
  subst e
  have e2 : (({ s.setFrames F0 with heap := h0, slotsUsed := n0 } : State).setVm v0).setFrames F = ({ (s.setFrames F0).setFrames F with heap := h0, slotsUsed := n0 } : State).setVm v0 := rfl
  rw [e2, State.setFrames_setFrames]
  rfl
section XC6
variable {p : Program} {l : Launch} {e : Env} {R : Room} {s : State} {m : MethodId} {args : Array Value} {below : List Frame} {meth : Method} {c : Code} {H : Heap} {locs : List Loc} {cells slots : Nat}
variable {cc : ByteArray} {pc nL : Nat} {ls : Array Slot} {rest : List Value}
theorem xc_new1 {own C : String} {names : List String} {i1 i2 : Nat} (hx : p.tables.exec = Jvm.exec) (hb : c.code = cc) (hml : c.maxLocals = nL) (hls : ls.size = nL) (hown : s.vm.findClass own = some m.cls) (hlocks : meth.locks = false) (hno : ∀ z ∈ c.exceptionTable.toList, False) (htr : e.platform.stackTraces = false)
    (hfit : Bundle.fit C = true) (hnames : ∀ n ∈ names, Bundle.fit n = true) (hws' : ∀ w ∈ Bundle.ownAtoms0 own i2 C names, w.before args s = true) (hcl : (Cond.classLink own i1 C).before args s = true) (hini : (Cond.initialized C).before args s = true) (hins : Cond.instantiable C 6 ∈ Bundle.ownAtoms0 own i2 C names)
    (d0 : decode cc pc = .ok (.new i1, 3)) (d3 : decode cc (pc + 3) = .ok (.dup, 1)) (d4 : decode cc (pc + 3 + 1) = .ok (.invokespecial i2, 3)) (d7 : decode cc (pc + 3 + 1 + 3) = .ok (.athrow, 1))
    (hcells : 0 + 1 ≤ R.cells) (hslots : 0 + 6 ≤ R.slots) (hfr : names.length + 3 < R.frames) (hlo : (rest.map fun v => v.category).sum + 1 + (13 * (names.length + 1) + 41) ≤ R.locals) (hsz : H.size = s.heap.size) :
    W p l e R s m args below meth c H [] 0 0 (fun t => ∃ x : Addr, t.status = .running ∧ Ended t below (.threw x) ∧ s.WarmedH t.vm ∧ s.sameButNew ({ t with vm := s.vm } : State) [] 1 6 ∧ xc_Ex C x t) (F0 m pc ls rest) := by
  refine W.newc (own := own) (C := C) (n := 6) hx hb hown hcl (hws' _ hins) hini rfl d0 hcells hslots ?_
  intro cC kC f1 f2 f3 f4
  refine lv_dup hx hb d3 rfl ?_
  intro T2 hT2 X2
  obtain ⟨U, hsteps, hrun, hend, hW, hsame, ce, hce, hoc⟩ := X2.ctorThrow0 (g := F0 m (pc + 3 + 1) ls (.ref H.size :: .ref H.size :: rest)) (own := own) (cls := C) (names := names) (ic := i2) (a := H.size) (cX := cC) (kX := kC) (rest := rest) hx htr hown hfit hnames hws'
    (fun x hx => by cases hx) f1 f2 (by rw [hT2]; simp) (by rw [hsz]; exact Nat.le_refl _) rfl (by rw [hml]; exact hls) rfl rfl rfl (by rw [hb]; exact d4) (by rw [hb]; exact d7) (fun z hz => absurd (hno z hz) id) hfr
    (by rw [List.map_cons, List.sum_cons, show (Value.ref H.size).category = 1 from rfl]; show 2 * 0 + _ + _ ≤ _; omega) hlocks
  refine ⟨U, hsteps, H.size, hrun, hend, hW, hsame, ce, hce, ?_, ?_⟩
  · rw [hoc.vm]; rfl
  · rw [hW.alike.findClass]
    exact hoc.cls
theorem xc_thrownew {A : Nat → Prop} {Qc : Array Value → State → Outcome → State → Prop} {free : Addr → Prop} {own C : String} {names : List String} {i1 i2 : Nat} (hx : p.tables.exec = Jvm.exec) (hb : c.code = cc) (hml : c.maxLocals = nL) (hls : ls.size = nL) (hown : s.vm.findClass own = some m.cls) (hlocks : meth.locks = false) (hno : ∀ z ∈ c.exceptionTable.toList, False) (htr : e.platform.stackTraces = false)
    (hfit : Bundle.fit C = true) (hnames : ∀ n ∈ names, Bundle.fit n = true) (hws : ∀ w ∈ xc_ws own i1 i2 C names, w.before args s = true) (hrest : ∀ w ∈ Bundle.ownAtoms0 own i2 C names, w.onTables = false → w ∈ xc_heapw) (hins : Cond.instantiable C 6 ∈ Bundle.ownAtoms0 own i2 C names)
    (hTh : xc_Th A s H) (d0 : decode cc pc = .ok (.new i1, 3)) (d3 : decode cc (pc + 3) = .ok (.dup, 1)) (d4 : decode cc (pc + 3 + 1) = .ok (.invokespecial i2, 3)) (d7 : decode cc (pc + 3 + 1 + 3) = .ok (.athrow, 1))
    (hcells : cells + 1 ≤ R.cells) (hslots : slots + 6 ≤ R.slots) (hfr : names.length + 3 < R.frames) (hlo : (rest.map fun v => v.category).sum + 1 + (13 * (names.length + 1) + 41) ≤ R.locals)
    (hq : ∀ (x : Addr) (t : State) (H1 : Heap), t.heap = H1 → H.size ≤ H1.size → (∀ q, q < H.size → H1[q]? = H[q]?) → s.WarmedH t.vm → xc_Ex C x t → Qc args s (.threw x) t) (hf : ∀ q ∈ locs, free q.base) :
    W p l e R s m args below meth c H locs cells slots (xc_MQ below Qc args s (cells + 1) (slots + 6) free) (F0 m pc ls rest) := by
  intro T hT X
  subst hT
  have X0 := xc_rebase X (R' := { R with cells := 1, slots := 6 }) (Nat.le_refl _) (Nat.le_refl _) hcells hslots
  have hws' : ∀ w ∈ Bundle.ownAtoms0 own i2 C names, w.before args ({ s with heap := T.heap, slotsUsed := T.slotsUsed } : State) = true := by
    intro w hw
    by_cases ho : w.onTables = true
    · exact va_tabs ho (rfl : s.vm = ({ s with heap := T.heap, slotsUsed := T.slotsUsed } : State).vm) (hws w (by
        refine List.mem_cons_of_mem _ (List.mem_cons_of_mem _ (List.mem_filter.mpr ⟨hw, ho⟩))))
    · have h2 := hrest w hw (by simpa using ho)
      obtain ⟨a1, a2⟩ := hTh.1.words (V := ({ s with heap := T.heap, slotsUsed := T.slotsUsed } : State)) (args := args) (Vm.Alike.refl _)
      obtain ⟨b1, b2⟩ := hTh.2.words (V := ({ s with heap := T.heap, slotsUsed := T.slotsUsed } : State)) (args := args) (Vm.Alike.refl _)
      simp only [xc_heapw, List.mem_cons, List.not_mem_nil, or_false] at h2
      rcases h2 with rfl | rfl | rfl | rfl
      · exact a1
      · exact b1
      · exact a2
      · exact b2
  have hcl : (Cond.classLink own i1 C).before args ({ s with heap := T.heap, slotsUsed := T.slotsUsed } : State) = true := va_tabs (u := s) (A := args) rfl rfl (hws _ List.mem_cons_self)
  have hini : (Cond.initialized C).before args ({ s with heap := T.heap, slotsUsed := T.slotsUsed } : State) = true := va_tabs (u := s) (A := args) rfl rfl (hws _ (List.mem_cons_of_mem _ List.mem_cons_self))
  obtain ⟨t, hsteps, x, hrun, hend, hW, hsame, hex⟩ := xc_new1 (l := l) (e := e) (below := below) (R := { R with cells := 1, slots := 6 }) (s := ({ s with heap := T.heap, slotsUsed := T.slotsUsed } : State)) (H := T.heap) (rest := rest) hx hb hml hls hown hlocks hno htr hfit hnames hws' hcl hini hins d0 d3 d4 d7 (Nat.le_refl 1) (Nat.le_refl 6) hfr hlo rfl T rfl X0
  have hkeep : ∀ q, q < T.heap.size → t.heap[q]? = T.heap[q]? := by
    intro q hqs
    obtain ⟨c', g1, g2, g3, g4⟩ := hsame.2.2.2.2.2 q T.heap[q] (Array.getElem?_eq_getElem hqs)
    have g1' : t.heap[q]? = some c' := g1
    have e1 : c'.slots = (T.heap[q]).slots := Array.ext_getElem? fun i => g4 i List.not_mem_nil
    rw [g1', Array.getElem?_eq_getElem hqs, g2, e1]
  have hsz : T.heap.size ≤ t.heap.size := hsame.2.1
  have hTt : T.sameButNew ({ t with vm := T.vm } : State) [] 1 6 := by
    refine ⟨?_, hsame.2.1, hsame.2.2.1, hsame.2.2.2.1, hsame.2.2.2.2.1, hsame.2.2.2.2.2⟩
    show ({ t with vm := T.vm } : State) = ({ T.setFrames t.frames with heap := t.heap, slotsUsed := t.slotsUsed } : State)
    rw [xc_sf X.same.1]
    have e0 := congrArg (fun z : State => z.setVm T.vm) hsame.1
    exact e0
  refine ⟨t, hsteps, .threw x, hrun, hend, hq x t t.heap rfl hsz hkeep hW hex, locs ++ [], ⟨hW, X.same.trans (hTt.setVm s.vm)⟩, fun q hq9 => hf q (by simpa using hq9)⟩
end XC6
