/-! XC: posts, catching, throwing -/
/-- x is a living object of the class C -/
def xc_Ex (C : String) (x : Addr) (t : State) : Prop := ∃ cell : Cell, t.heap[x]? = some cell ∧ cell.vm.isStatics = false ∧ t.vm.findClass C = some cell.cls
/-- the end of a method: it returned v with post v u, or threw an object of the class C with thr C u; B u t: the world behind it -/
def xc_Q {S : Type} (post : Option Value → S → Prop) (thr : String → S → Prop) (B : S → State → Prop) (A : Nat → Prop) : Array Value → State → Outcome → State → Prop := fun _ st oc t =>
  ((∃ (v : Option Value) (u : S), oc = .returned v ∧ post v u ∧ B u t) ∨ (∃ (x : Addr) (C : String) (u : S), oc = .threw x ∧ thr C u ∧ xc_Ex C x t ∧ B u t)) ∧ va_F A st t
theorem xc_Ex.moved {C : String} {x : Addr} {t U : State} (hh : U.heap = t.heap) (hv : t.vm.Alike U.vm) (h : xc_Ex C x t) : xc_Ex C x U := by
  obtain ⟨cell, h1, h2, h3⟩ := h
  exact ⟨cell, by rw [hh]; exact h1, h2, by rw [hv.findClass]; exact h3⟩
section XC3
variable {p : Program} {l : Launch} {e : Env} {R : Room} {s : State} {m : MethodId} {args : Array Value} {below : List Frame} {meth : Method} {c : Code} {H : Heap} {locs : List Loc} {cells slots : Nat} {Q : State → Prop}
variable {pc : Nat} {ls : Array Slot} {rest st0 : List Value} {a : Array Value} {A0 A1 : Nat → Prop} {H0 : Heap} {mc ms : Nat} {free : Addr → Prop}
/-- behind a call that may throw: two roads -/
theorem xc_call {S : Type} {post : Option Value → S → Prop} {thr : String → S → Prop} {B : S → State → Prop} (hr : xc_Run p l e R s m args below meth c H locs cells slots mc ms (F0 m pc ls st0) rest (xc_Q post thr B A1 a) free) (hS : va_S A0 H0 H locs) (hA : ∀ q, q < H.size → A1 q → A0 q) (hf : ∀ q, free q → A0 q)
    (kk : ∀ (v : Option Value) (u : S) (t : State) (H1 : Heap) (locs1 : List Loc), t.heap = H1 → s.vm.Alike t.vm → post v u → B u t → H.size ≤ H1.size → (∀ q : Nat, q < H.size → ¬ A1 q → H1[q]? = H[q]?) → va_S A0 H0 H1 locs1 → W p l e R s m args below meth c H1 locs1 (cells + mc) (slots + ms) Q (F0 m (pc + 3) ls (v.toList ++ rest)))
    (kt : ∀ (x : Addr) (C : String) (u : S) (t : State) (H1 : Heap) (locs1 : List Loc), t.heap = H1 → s.vm.Alike t.vm → thr C u → xc_Ex C x t → B u t → H.size ≤ H1.size → (∀ q : Nat, q < H.size → ¬ A1 q → H1[q]? = H[q]?) → va_S A0 H0 H1 locs1 → xc_TW p l e R s m args below meth c H1 locs1 (cells + mc) (slots + ms) Q (F0 m pc ls rest) x) :
    W p l e R s m args below meth c H locs cells slots Q (F0 m pc ls st0) := by
  intro T hT X
  obtain ⟨o, st₀, t, T', L, h0, X', hL, e1, e2, ⟨hor, hz, hk⟩, hret, hthr⟩ := hr T hT X
  rw [h0] at hz hk
  have hS1 : va_S A0 H0 T'.heap (locs ++ L) := ⟨Nat.le_trans hS.1 (by rw [e1]; exact hz), fun q h1 h2 => by rw [e1, hk q (Nat.lt_of_lt_of_le h1 hS.1) (fun z => h2 (hA q (Nat.lt_of_lt_of_le h1 hS.1) z))]; exact hS.2.1 q h1 h2, fun q hq => by
      rcases List.mem_append.mp hq with h | h
      · exact hS.2.2 q h
      · exact hf _ (hL q h)⟩
  have hal : s.vm.Alike t.vm := by rw [← e2]; exact X'.warmed.alike
  rcases hor with ⟨v, u, hv, hp, hb⟩ | ⟨x, C, u, hv, hp, hxx, hb⟩
  · obtain ⟨t2, a1, b1⟩ := kk v u t T'.heap (locs ++ L) e1.symm hal hp hb (by rw [e1]; exact hz) (fun q h1 h2 => by rw [e1]; exact hk q h1 h2) hS1 T' rfl X'
    exact ⟨t2, hret v hv t2 a1, b1⟩
  · obtain ⟨t2, a1, b1⟩ := kt x C u t T'.heap (locs ++ L) e1.symm hal hp hxx hb (by rw [e1]; exact hz) (fun q h1 h2 => by rw [e1]; exact hk q h1 h2) hS1 T' rfl X'
    exact ⟨t2, hthr x hv t2 a1, b1⟩
end XC3
/-- the rows of a handlers' table, all of them over pc: which one takes an object of the class C -/
def xc_Fnd (s : State) (args : Array Value) (own C : String) (pc tgt : Nat) : List (Nat × Nat × Nat × Nat) → Prop
  | [] => False
  | q :: r => (q.1 ≤ pc ∧ pc < q.2.1) ∧ q.2.2.2 ≠ 0 ∧ ∃ name, (Cond.classLink own q.2.2.2 name).before args s = true ∧ (((Cond.castable C name).before args s = true ∧ tgt = q.2.2.1) ∨ (va_Nc C name s ∧ xc_Fnd s args own C pc tgt r))
section XC4
variable {e : Env}
theorem xc_go {f : JFrame} {a : Addr} {cell : Cell} {own C : String} {args : Array Value} {s₀ : State} (hpl : e.platform.magicAccessors = ({} : Platform).magicAccessors) (hown : s₀.vm.findClass own = some f.method.cls) (hC : s₀.vm.findClass C = some cell.cls) (hobj : cell.vm.isStatics = false) (tgt : Nat) :
    ∀ (es : List ExceptionTableEntry) (S : State), s₀.WarmedH S.vm → S.heap[a]? = some cell → xc_Fnd s₀ args own C f.pc tgt (es.map fun h => (h.startPc, h.endPc, h.handlerPc, h.catchType)) →
      ∃ vm', s₀.WarmedH vm' ∧ ∀ (Q : Handler → Pre) (E : CtlPost) (d : Bool) (acts : List Action), wp (findHandler.go f a es) Q E e d acts S ↔ Q (.found tgt) d acts (S.setVm vm') := by
  have hst : ∀ k, cell.vm ≠ .statics k := VmData.ne_statics_of hobj
  obtain ⟨k0, hk0⟩ := Vm.classAt_of_findClass hC
  intro es
  induction es with
  | nil => intro S _ _ h; exact absurd h id
  | cons y ys ih =>
    intro S hW hcell h
    obtain ⟨⟨h1, h2⟩, h0, name, hl, hor⟩ := h
    dsimp only at h1 h2 h0 hl hor
    obtain ⟨cT, hcT, hcl⟩ := Cond.classLink_spec hown hl e.platform hpl
    obtain ⟨dk, _, _, kt, hd, _, _, _, _, hkt, _, hopen⟩ := hcl.here
    have hW' : s₀.WarmedH (S.vm.noted f.method.cls y.catchType (.cls cT)) := hW.noted hd hopen (State.rightAt_cls hcl)
    obtain ⟨ha, ht⟩ := (resolveClass_links e.toSetting (hW.classLinks hcl)).op (op := VmOp.resolveClass f.method.cls y.catchType) rfl
    obtain ⟨k1, hk1, -⟩ := hW'.alike.2.2 _ _ hk0
    obtain ⟨k2, hk2, -⟩ := hW'.alike.2.2 _ _ hkt
    rcases hor with ⟨hcast, htg⟩ | ⟨hno, hrest⟩
    · refine ⟨_, hW', fun Q E d acts => ?_⟩
      obtain ⟨c3, c4, g3, g4, hasg⟩ := Cond.castable_spec hcast
      cases hC.symm.trans g3
      cases hcT.symm.trans g4
      have hfit : (S.vm.noted f.method.cls y.catchType (.cls cT)).assignable cell.cls cT = true := by rw [hW'.alike.assignable]; exact hasg
      subst htg
      simp [findHandler.go, h1, h2, h0, ha, ht, hcell, hst, hk1, hk2, hfit, VmOp.dirties, VmOp.acts]
    · obtain ⟨c3, c4, g3, g4, hasg⟩ := hno
      cases hC.symm.trans g3
      cases hcT.symm.trans g4
      have hfit : (S.vm.noted f.method.cls y.catchType (.cls cT)).assignable cell.cls cT = false := by rw [hW'.alike.assignable]; exact hasg
      obtain ⟨vm', hW2, hq⟩ := ih (S.setVm (S.vm.noted f.method.cls y.catchType (.cls cT))) hW' hcell hrest
      refine ⟨vm', hW2, fun Q E d acts => ?_⟩
      have hq' := hq Q E
      have e1 : ∀ (d : Bool) (acts : List Action), wp (findHandler.go f a (y :: ys)) Q E e d acts S ↔ wp (findHandler.go f a ys) Q E e d acts (S.setVm (S.vm.noted f.method.cls y.catchType (.cls cT))) := by
        intro d acts
        simp [findHandler.go, h1, h2, h0, ha, ht, hcell, hst, hk1, hk2, hfit, VmOp.dirties, VmOp.acts]
      rw [e1, hq']
      rfl
/-- a search that ends in a handler and has warmed the tables -/
theorem xc_stepCatch {s : State} {a : Addr} {f : JFrame} {r : List Frame} {pc : Nat} {vm' : Vm} (hfind : ∀ (Q : Handler → Pre) (E : CtlPost) (d : Bool) (acts : List Action), wp (findHandler f a) Q E e d acts s ↔ Q (.found pc) d acts (s.setVm vm')) :
    (stepThrowing e s a (.java f :: r)).Is ((s.setVm vm').setFrames (.java { f with pc := pc, stack := [.ref a] } :: r)) [] := by
  simp only [stepThrowing, searchFrame, vmDo]
  generalize hr : Sem.go _ e false [] s = res
  obtain ⟨as, rfl, ha⟩ := Sem.eq_ok_of hr (a := Handler.found pc) (s' := s.setVm vm') (acts' := []) (by simp [hfind])
  exact ⟨rfl, ha⟩
theorem xc_caught {tb : Tables} {s target : State} {g : JFrame} {c : Code} {below : List Frame} {a : Addr} (h : At s g.method c below) {pc : Nat} {vm' : Vm}
    (hfind : ∀ (Q : Handler → Pre) (E : CtlPost) (d : Bool) (acts : List Action), wp (findHandler g a) Q E e d acts ((s.setTop g).pushFrame (.throwing a)) ↔ Q (.found pc) d acts (((s.setTop g).pushFrame (.throwing a)).setVm vm'))
    (hrest : Steps tb e below ((s.setVm vm').setTop { g with pc := pc, stack := [.ref a] }) target) : Steps tb e below ((s.setTop g).pushFrame (.throwing a)) target := by
  obtain ⟨hgo, hw⟩ := h.throwing a
  refine Steps.head hgo hw ?_
  rw [stepThread_throwing (frames_entered h.top _), (xc_stepCatch (s := (s.setTop g).pushFrame (.throwing a)) hfind).1]
  obtain ⟨g₀, hg⟩ := Option.isSome_iff_exists.mp h.top
  obtain ⟨r, hr⟩ := State.topJava?_eq_some.mp hg
  have hr' : (s.setVm vm').frames = .java g₀ :: r := hr
  rw [State.setTop_of_frames _ hr'] at hrest
  have e1 : ((((s.setTop g).pushFrame (.throwing a)).setVm vm').setFrames (.java { g with pc := pc, stack := [.ref a] } :: s.frames.tail)) = (s.setVm vm').setFrames (.java { g with pc := pc, stack := [.ref a] } :: r) := by
    rw [State.pushFrame, State.setTop_of_frames _ hr, State.setFrames_setFrames, hr]
    show (((s.setVm vm').setFrames _).setFrames _) = _
    rw [State.setFrames_setFrames]
    rfl
  rw [e1]
  exact hrest
end XC4
section XC5
variable {p : Program} {l : Launch} {e : Env} {R : Room} {s : State} {m : MethodId} {args : Array Value} {below : List Frame} {meth : Method} {c : Code} {H : Heap} {locs : List Loc} {cells slots : Nat} {Q : State → Prop}
/-- it is caught here -/
theorem xc_catch {own C : String} {hh : List (Nat × Nat × Nat × Nat)} {pc tgt : Nat} {ls : Array Slot} {st : List Value} {x : Addr} {t : State} (hown : s.vm.findClass own = some m.cls) (hrows : c.exceptionTable.toList.map (fun h => (h.startPc, h.endPc, h.handlerPc, h.catchType)) = hh)
    (hth : t.heap = H) (hal : s.vm.Alike t.vm) (hx : xc_Ex C x t) (hf : xc_Fnd s args own C pc tgt hh) (kk : W p l e R s m args below meth c H locs cells slots Q (F0 m tgt ls [.ref x])) :
    xc_TW p l e R s m args below meth c H locs cells slots Q (F0 m pc ls st) x := by
  intro T hT X
  obtain ⟨cell, g1, g2, g3⟩ := hx
  have hpl : e.platform.magicAccessors = ({} : Platform).magicAccessors := by rw [X.admits.platform]
  have hC : s.vm.findClass C = some cell.cls := by rw [← hal.findClass]; exact g3
  have hcell : T.heap[x]? = some cell := by rw [hT, ← hth]; exact g1
  rw [← hrows] at hf
  obtain ⟨vm', hW', hq⟩ := xc_go (e := e) (f := F0 m pc ls st) (a := x) (args := args) hpl hown hC g2 tgt c.exceptionTable.toList ((T.setTop (F0 m pc ls st)).pushFrame (.throwing x)) X.warmed hcell hf
  obtain ⟨t2, a1, b1⟩ := kk (T.setVm vm') hT (X.noted hW')
  refine ⟨t2, ?_, b1⟩
  exact xc_caught (g := F0 m pc ls st) X.here (fun Q E d acts => by rw [W.findHandler_eq (meth := meth) (code := c) X.method' X.code]; exact hq Q E d acts) a1
/-- the walk from here on, as a walk that begins here: the heap as it stands is the start's -/
theorem xc_rebase {T : State} (X : Stand p l e R s m args below meth c T locs cells slots) {R' : Room} (h1 : R'.frames ≤ R.frames) (h2 : R'.locals ≤ R.locals) (h3 : cells + R'.cells ≤ R.cells) (h4 : slots + R'.slots ≤ R.slots) :
    Stand p l e R' ({ s with heap := T.heap, slotsUsed := T.slotsUsed } : State) m args below meth c T [] 0 0 := by
  have hroom : ({ s with heap := T.heap, slotsUsed := T.slotsUsed } : State).hasRoom e.platform R' = true := by
    have r := X.room
    have c1 := X.cellsAbove (n := R'.cells) h3
    have c2 := X.slotsAbove (n := R'.slots) h4
    have bk := X.book
    simp only [State.hasRoom, Bool.and_eq_true, decide_eq_true_eq] at r ⊢
    obtain ⟨⟨⟨⟨r1, r2, r3, r4, r5, r6⟩, r7⟩, r8⟩, r9⟩ := r
    refine ⟨⟨⟨⟨?_, ?_, ?_, ?_, ?_, ?_⟩, ?_⟩, ?_⟩, ?_⟩
    · exact Nat.le_trans (by show s.localsInUse + R'.locals + stackMargin ≤ s.localsInUse + R.locals + stackMargin; omega) r1
    · exact Nat.le_trans (by show s.frames.length + R'.frames ≤ s.frames.length + R.frames; omega) r2
    · exact Nat.le_trans (by show s.frames.length + R'.frames ≤ s.frames.length + R.frames; omega) r3
    · exact Nat.le_trans (by show s.localsInUse + R'.locals ≤ s.localsInUse + R.locals; omega) r4
    · exact Nat.le_trans (by show s.localsInUse + R'.locals ≤ s.localsInUse + R.locals; omega) r5
    · exact r6
    · exact c1
    · exact c2
    · exact bk
  have hdr : T.heap.toList.drop T.heap.size = [] := List.drop_of_length_le (Nat.le_of_eq Array.length_toList)
  refine ⟨X.admits, X.cas, X.clock, X.frames, hroom, X.hears, X.method, X.code, X.here, X.tail, X.warmed, X.limits, X.bytes, ?_⟩
  refine ⟨?_, Nat.le_refl _, Nat.le_refl _, ?_, ?_, ?_⟩
  · have h := X.same.1
    exact h
  · show T.slotsUsed = T.slotsUsed + ((T.heap.toList.drop T.heap.size).map (fun z => z.slots.size)).sum
    rw [hdr]; rfl
  · show ((T.heap.toList.drop T.heap.size).map (fun z => z.slots.size)).sum ≤ 0
    rw [hdr]; exact Nat.le_refl 0
  · intro a0 c0 hc0
    exact ⟨c0, hc0, rfl, rfl, fun _ _ => rfl⟩
end XC5
