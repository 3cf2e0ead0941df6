section
/-! XC: methods that return or throw. An end of either kind; a contract of that form; the walk's rows for a throw, for a call that may throw, for a catch. -/
def xc_End (st t : State) (L : List Loc) (k n : Nat) : Prop := st.WarmedH t.vm ∧ st.sameButNew ({ t with vm := st.vm } : State) L k n
/-- a contract whose outcome may be a return or a throw -/
def xc_Met (l : Launch) (y : MethodName) (ws : List Cond) (rm : Room) (Pc : Array Value → State → Prop) (Qc : Array Value → State → Outcome → State → Prop) (mc ms : Nat) (free : Addr → Prop) : Prop :=
  MetFree l y (headSpec ws rm) Pc (fun _ _ _ _ _ => True) (fun a st o t => Qc a st o t ∧ ∃ L, xc_End st t L mc ms ∧ ∀ q ∈ L, free q.base)
def xc_MQ (below : List Frame) (Qc : Array Value → State → Outcome → State → Prop) (a : Array Value) (s : State) (mc ms : Nat) (free : Addr → Prop) : State → Prop := fun t =>
  ∃ o, t.status = .running ∧ Ended t below o ∧ Qc a s o t ∧ ∃ L, xc_End s t L mc ms ∧ ∀ q ∈ L, free q.base
section XC1
variable {p : Program} {l : Launch} {e : Env} {R : Room} {s : State} {m : MethodId} {args : Array Value} {below : List Frame} {meth : Method} {c : Code} {H : Heap} {locs : List Loc} {cells slots : Nat} {Q : State → Prop}
theorem xc_ofW {y : MethodName} {ws ws' : List Cond} {rm : Room} {Pc : Array Value → State → Prop} {Qc : Array Value → State → Outcome → State → Prop} {mc ms : Nat} {free : Addr → Prop} {cc : ByteArray} {maxL : Nat} {ret : Option FieldType}
    (hy : plainName y.cls = true) (hw : ws = Cond.code y cc maxL ret :: ws')
    (body : ∀ p e s m args below meth c s₁, BodyLoose p l y (headSpec ws rm) cc maxL ret e s m args below meth c s₁ → c.maxLocals = maxL → (∀ z ∈ c.exceptionTable.toList, False) → Pc args s →
      W p l e (headSpec ws rm).room s m args below meth c s.heap [] 0 0 (xc_MQ below Qc args s mc ms free) (entryFrame m args maxL)) : xc_Met l y ws rm Pc Qc mc ms free := by
  refine MetFree.of_bodyS (code := cc) (maxLocals := maxL) (ret := ret) hy ?_ ?_
  · intro args s m h hn
    obtain ⟨meth, c, h1, h2, h3, h4, h5, h6, -, -⟩ := Cond.code_spec hn (atoms_spec (ws := ws) h _ (by rw [hw]; exact List.mem_cons_self))
    exact ⟨meth, c, h1, h2, h3, h4, h5, h6⟩
  · intro p e s m args below meth c s₁ B hml hP _
    have hh0 : s₁.heap = s.heap := by rw [B.state]; rfl
    have hne : c.exceptionTable.isEmpty = true := B.noHandlers (atoms_spec (ws := ws) B.pre _ (by rw [hw]; exact List.mem_cons_self))
    have hno : ∀ z ∈ c.exceptionTable.toList, False := by
      intro z hz
      rw [Array.isEmpty_iff] at hne
      rw [hne] at hz
      simp at hz
    obtain ⟨t, a1, o, b1, b2, b3⟩ := body p e s m args below meth c s₁ B hml hno hP s₁ hh0 (Stand.of_body B)
    exact ⟨t, o, a1, b1, b2, ⟨b3.1, b3.2⟩⟩
/-- the same for a method with a table of handlers -/
theorem xc_ofWH {y : MethodName} {ws ws' : List Cond} {rm : Room} {Pc : Array Value → State → Prop} {Qc : Array Value → State → Outcome → State → Prop} {mc ms : Nat} {free : Addr → Prop} {cc : ByteArray} {maxL : Nat} {ret : Option FieldType} {hh : List (Nat × Nat × Nat × Nat)}
    (hy : plainName y.cls = true) (hw : ws = Cond.codeWith y cc maxL ret hh :: ws')
    (body : ∀ p e s m args below meth c s₁, BodyLoose p l y (headSpec ws rm) cc maxL ret e s m args below meth c s₁ → c.maxLocals = maxL → c.exceptionTable.toList.map (fun h => (h.startPc, h.endPc, h.handlerPc, h.catchType)) = hh → Pc args s →
      W p l e (headSpec ws rm).room s m args below meth c s.heap [] 0 0 (xc_MQ below Qc args s mc ms free) (entryFrame m args maxL)) : xc_Met l y ws rm Pc Qc mc ms free := by
  have hat : ∀ (args : Array Value) (s : State), (headSpec ws rm).pre.before args s = true → (Cond.codeWith y cc maxL ret hh).before args s = true := fun args s h =>
    atoms_spec (ws := ws) h _ (by rw [hw]; exact List.mem_cons_self)
  refine MetFree.of_bodyS (code := cc) (maxLocals := maxL) (ret := ret) hy ?_ ?_
  · intro args s m h hn
    obtain ⟨m9, meth, c, hn9, h1, h2, h3, h4, -, h5, h6, -⟩ := Cond.codeWith_spec (hat args s h)
    cases hn.symm.trans hn9
    exact ⟨meth, c, h1, h2, h3, h4, h5, h6⟩
  · intro p e s m args below meth c s₁ B hml hP _
    have hh0 : s₁.heap = s.heap := by rw [B.state]; rfl
    obtain ⟨m9, meth9, c9, hn9, h1, h2, -, -, h5, -⟩ := Cond.codeWith_spec (hat args s B.pre)
    cases B.named.symm.trans hn9
    cases B.method.symm.trans h1
    cases (Stand.of_body B).code.symm.trans h2
    obtain ⟨t, a1, o, b1, b2, b3⟩ := body p e s m args below meth c s₁ B hml h5 hP s₁ hh0 (Stand.of_body B)
    exact ⟨t, o, a1, b1, b2, ⟨b3.1, b3.2⟩⟩
theorem xc_mono {Q₇ : State → Prop} {g : JFrame} (h : ∀ t, Q t → Q₇ t) (k : W p l e R s m args below meth c H locs cells slots Q g) : W p l e R s m args below meth c H locs cells slots Q₇ g := by
  intro T hT X
  obtain ⟨t, a, b⟩ := k T hT X
  exact ⟨t, a, h t b⟩
/-- the kit's own return rows end a method of this form too -/
theorem xc_ret {Qc : Array Value → State → Outcome → State → Prop} {mc ms : Nat} {free : Addr → Prop} {g : JFrame} (k : W p l e R s m args below meth c H locs cells slots (MQ below Qc args s mc ms free) g) : W p l e R s m args below meth c H locs cells slots (xc_MQ below Qc args s mc ms free) g := by
  refine xc_mono ?_ k
  intro t ht
  obtain ⟨o, h1, h2, h3, L, h4, h5⟩ := ht
  exact ⟨o, h1, h2, h3, L, ⟨h4.2.1, h4.2.2⟩, h5⟩
/-- a note of a throw lies over the method's frame g -/
def xc_TW (p : Program) (l : Launch) (e : Env) (R : Room) (s : State) (m : MethodId) (args : Array Value) (below : List Frame) (meth : Method) (c : Code) (H : Heap) (locs : List Loc) (cells slots : Nat) (Q : State → Prop) (g : JFrame) (x : Addr) : Prop :=
  ∀ T : State, T.heap = H → Stand p l e R s m args below meth c T locs cells slots → ∃ t, Steps p.tables e below ((T.setTop g).pushFrame (.throwing x)) t ∧ Q t
/-- it isn't caught here: the method ends so -/
theorem xc_leave {Qc : Array Value → State → Outcome → State → Prop} {free : Addr → Prop} {x : Addr} {pc : Nat} {ls : Array Slot} {st : List Value} (hlocks : meth.locks = false) (hout : ∀ z ∈ c.exceptionTable.toList, covers z pc = false)
    (hq : ∀ t : State, t.heap = H → s.WarmedH t.vm → Qc args s (.threw x) t) (hf : ∀ q ∈ locs, free q.base) :
    xc_TW p l e R s m args below meth c H locs cells slots (xc_MQ below Qc args s cells slots free) (F0 m pc ls st) x := by
  intro T hT X
  obtain ⟨h1, h2, h3, h4, h5⟩ := X.leaveThrown x (g := F0 m pc ls st) rfl rfl rfl hout hlocks
  exact ⟨_, h1, _, h2, h3, hq _ hT h4, locs, ⟨h4, h5⟩, hf⟩
end XC1
end
section
/-! XC: a call of a method that may throw -/
section XC2
variable {p : Program} {l : Launch} {e : Env} {R : Room} {s : State} {m : MethodId} {args : Array Value} {below : List Frame} {meth : Method} {c : Code} {locs : List Loc} {cells slots : Nat}
theorem xc_back {y : MethodName} {ws : List Cond} {rm : Room} {Pc : Array Value → State → Prop} {Qc : Array Value → State → Outcome → State → Prop} {mc ms : Nat} {free : Addr → Prop} {U : State} {g : JFrame} {ig : Instr} {mk : MethodId} {a : Array Value} {len maxL : Nat} {methY : Method} {cY : Code}
    (hM : xc_Met l y ws rm Pc Qc mc ms free) (X : Stand p l e R s m args below meth c U locs cells slots)
    (hg : g.method = m) (hsize : g.locals.size = c.maxLocals) (hdg : decode c.code g.pc = .ok (ig, len)) (hW : 2 * g.monitorRoom + (g.stack.map fun v => v.category).sum ≤ 8)
    (hn : U.methodNamed? y = some mk) (hmY : U.vm.method? mk = some methY) (hcY : methY.code = some cY) (hlY : cY.maxLocals = maxL)
    (hini : (Cond.initialized y.cls).before a U = true) (hws : ∀ w ∈ ws, w.before a U = true)
    (hframes : rm.frames + 1 ≤ R.frames) (hlocals : 8 + (maxL + 11) + rm.locals ≤ R.locals) (hrc : cells + rm.cells ≤ R.cells) (hrs : slots + rm.slots ≤ R.slots)
    (hP : Pc a (U.calling g mk a)) :
    ∃ (o : Outcome) (t U' : State) (L : List Loc), Stand p l e R s m args below meth c U' (locs ++ L) (cells + mc) (slots + ms) ∧ (∀ q ∈ L, free q.base) ∧ U'.heap = t.heap ∧ U'.vm = t.vm ∧ Qc a (U.calling g mk a) o t ∧
      (∀ v, o = .returned v → Steps p.tables e below (doInvoke e (U.setTop g) [] mk a).1 (U'.setTop { g with pc := g.pc + len, stack := v.toList ++ g.stack })) ∧
      (∀ x, o = .threw x → Steps p.tables e below (doInvoke e (U.setTop g) [] mk a).1 ((U'.setTop g).pushFrame (.throwing x))) := by
  obtain ⟨kY, hkY, -⟩ := className_of_methodNamed hn
  have hinitY : kY.init = .initialized := Cond.initialized_spec (findClass_of_methodNamed hn) hkY hini
  have h : At U g.method c below := by rw [hg]; exact X.here
  have hpre : (headSpec ws rm).pre.before a U = true := atoms_intro hws
  have happ : (headSpec ws rm).appliesLoose y e.platform (U.calling g mk a) = true :=
    Spec.appliesLoose_calling (g := g) h hdg hn hkY hinitY
      (X.room_calling (g := g) (R' := (headSpec ws rm).room) hsize hmY hcY hframes (by rw [hlY]; show _ + _ + _ + rm.locals ≤ _; omega) hrc hrs) hpre
  obtain ⟨mid, hmid⟩ := h.above
  have hfr : (U.setTop g).frames = (.java g :: mid) ++ below := by rw [State.frames_setTop' g h.top, hmid]; rfl
  obtain ⟨o, s₂, hsteps, -, hend, hq⟩ := Steps.callFree hM p X.admits X.cas X.clock (acts := []) hfr happ hP trivial
  have hq' : Qc a (U.calling g mk a) o s₂ ∧ ∃ L, xc_End (U.calling g mk a) s₂ L mc ms ∧ ∀ q ∈ L, free q.base := hq
  obtain ⟨hQ, L, ⟨hW₂, e2, q2, q3, q4, q5, q6⟩, hL⟩ := hq'
  rw [State.frames_setTop' g h.top] at hend
  have e3 : s₂ = ({ (U.calling g mk a).setFrames s₂.frames with heap := s₂.heap, slotsUsed := s₂.slotsUsed } : State).setVm s₂.vm := by
    have : s₂ = ({ s₂ with vm := (U.calling g mk a).vm } : State).setVm s₂.vm := rfl
    rw [e2] at this
    exact this
  have hW' : U.WarmedH s₂.vm := hW₂
  obtain ⟨g₀, hg0⟩ := Option.isSome_iff_exists.mp h.top
  obtain ⟨r, hr⟩ := State.topJava?_eq_some.mp hg0
  have hr' : (({ U with heap := s₂.heap, slotsUsed := s₂.slotsUsed } : State).setVm s₂.vm).frames = .java g₀ :: r := hr
  have hsame : U.sameButNew ({ U with heap := s₂.heap, slotsUsed := s₂.slotsUsed } : State) L mc ms := by
    refine ⟨?_, q2, q3, q4, q5, q6⟩
    obtain ⟨t, ht, -⟩ := State.frames_cons hr
    show ({ U with heap := s₂.heap, slotsUsed := s₂.slotsUsed } : State) = { U.setFrames U.frames with heap := s₂.heap, slotsUsed := s₂.slotsUsed }
    rw [State.setFrames_self ht]
  subst hg
  refine ⟨o, s₂, ({ U with heap := s₂.heap, slotsUsed := s₂.slotsUsed } : State).setVm s₂.vm, L,
    ⟨X.admits, X.cas, X.clock, X.frames, X.room, X.hears, X.method, X.code, (X.here.setHeapUsed s₂.heap s₂.slotsUsed).setVm hW'.alike, X.tail, State.WarmedH.trans X.warmed hW', X.limits, X.bytes, X.same.trans (hsame.setVm s.vm)⟩,
    hL, rfl, rfl, hQ, ?_, ?_⟩
  · intro v hv
    subst hv
    obtain ⟨c₂, i₂, len₂, hc₂, hd₂, hf₂⟩ := hend
    have hcc : c₂ = c := by
      have h1 : s₂.code? g.method = U.code? g.method := by
        rw [State.code?_eq, State.code?_eq, hW'.alike.method?]
      exact Option.some.inj (hc₂.symm.trans (h1.trans h.code))
    subst hcc
    have hlen : len₂ = len := by rw [hdg] at hd₂; cases hd₂; rfl
    subst hlen
    have hs₂ : s₂ = (({ U with heap := s₂.heap, slotsUsed := s₂.slotsUsed } : State).setVm s₂.vm).setTop { g with pc := g.pc + len₂, stack := v.toList ++ g.stack } := by
      refine e3.trans ?_
      rw [hf₂, State.calling_eq h.top, State.setFrames_setFrames, State.setTop_of_frames _ hr', hr]
      rfl
    rw [← hs₂]
    exact hsteps
  · intro x hv
    subst hv
    have hf₂ : s₂.frames = .throwing x :: .java g :: U.frames.tail := hend
    have hs₂ : s₂ = ((({ U with heap := s₂.heap, slotsUsed := s₂.slotsUsed } : State).setVm s₂.vm).setTop g).pushFrame (.throwing x) := by
      refine e3.trans ?_
      rw [hf₂, State.calling_eq h.top, State.setFrames_setFrames, State.pushFrame, State.frames_setTop _ hr', State.setTop_of_frames _ hr', State.setFrames_setFrames, hr]
      rfl
    rw [← hs₂]
    exact hsteps
/-- what is known of the called method, by its 'code' or its 'codeWith' -/
def xc_Is (s : State) (y : MethodName) (maxL : Nat) : Prop := ∃ (mk : MethodId) (methY : Method) (cY : Code), s.methodNamed? y = some mk ∧ s.vm.method? mk = some methY ∧ methY.code = some cY ∧ cY.maxLocals = maxL ∧ parseMethodDescriptor y.desc = some methY.sig
theorem xc_Is.code {y : MethodName} {bytes : ByteArray} {maxL : Nat} {ret : Option FieldType} (h : (Cond.code y bytes maxL ret).before args s = true) : xc_Is s y maxL := by
  obtain ⟨mk, hn⟩ := Cond.code_named h
  obtain ⟨methM, cM, h1, h2, -, h4, -, -, -, h8⟩ := Cond.code_spec hn h
  exact ⟨mk, methM, cM, hn, h1, h2, h4, h8⟩
theorem xc_Is.codeH {y : MethodName} {bytes : ByteArray} {maxL : Nat} {ret : Option FieldType} {hh : List (Nat × Nat × Nat × Nat)} (h : (Cond.codeWith y bytes maxL ret hh).before args s = true) : xc_Is s y maxL := by
  obtain ⟨mk, methM, cM, hn, h1, h2, -, h4, -, -, -, h8⟩ := Cond.codeWith_spec h
  exact ⟨mk, methM, cM, hn, h1, h2, h4, h8⟩
/-- the callee's words and room, as a caller has them -/
def xc_B (R : Room) (s : State) (args : Array Value) (y : MethodName) (maxL : Nat) (ws : List Cond) (rm : Room) (mc ms n : Nat) : Prop :=
  rm.cells = mc ∧ rm.slots = ms ∧ rm.frames + 1 ≤ R.frames ∧ 8 + (maxL + 11) + rm.locals ≤ R.locals ∧ (∀ w ∈ ws, ∀ (a' : Array Value) (U : State), s.WarmedH U.vm → w.before a' U = true) ∧
  xc_Is s y maxL ∧ (Cond.initialized y.cls).before args s = true ∧ (y.cls ≠ "java/lang/invoke/MethodHandle" ∧ y.cls ≠ "java/lang/invoke/VarHandle") ∧ (∀ sig, parseMethodDescriptor y.desc = some sig → n = sig.parameters.length)
theorem xc_bOf {y : MethodName} {maxL : Nat} {Ts ws : List Cond} {rm : Room} {mc ms : Nat} (n : Nat) (ht : ∀ w ∈ Ts, w.before args s = true) (hG : GoodIn Ts ws) (hIs : xc_Is s y maxL) (hrc : rm.cells = mc) (hrs : rm.slots = ms) (hini : (Cond.initialized y.cls).before args s = true)
    (hd : y.cls ≠ "java/lang/invoke/MethodHandle" ∧ y.cls ≠ "java/lang/invoke/VarHandle" ∧ (parseMethodDescriptor y.desc).map (fun d => d.parameters.length) = some n) (hR : rm.frames + 1 ≤ R.frames ∧ 8 + (maxL + 11) + rm.locals ≤ R.locals) :
    xc_B R s args y maxL ws rm mc ms n := by
  refine ⟨hrc, hrs, hR.1, hR.2, pay_in ht hG, hIs, hini, ⟨hd.1, hd.2.1⟩, fun sig h => ?_⟩
  have h2 := hd.2.2
  rw [h] at h2
  exact (Option.some.inj h2).symm
/-- a call, run: it comes back, or the note of its throw lies over the caller's frame -/
def xc_Run (p : Program) (l : Launch) (e : Env) (R : Room) (s : State) (m : MethodId) (args : Array Value) (below : List Frame) (meth : Method) (c : Code) (H : Heap) (locs : List Loc) (cells slots mc ms : Nat) (g : JFrame) (rest : List Value) (Qa : State → Outcome → State → Prop) (free : Addr → Prop) : Prop :=
  ∀ T : State, T.heap = H → Stand p l e R s m args below meth c T locs cells slots → ∃ (o : Outcome) (st₀ t T' : State) (L : List Loc), st₀.heap = H ∧ Stand p l e R s m args below meth c T' (locs ++ L) (cells + mc) (slots + ms) ∧ (∀ q ∈ L, free q.base) ∧ T'.heap = t.heap ∧ T'.vm = t.vm ∧ Qa st₀ o t ∧
    (∀ v, o = .returned v → Goes p e below T g T' { g with pc := g.pc + 3, stack := v.toList ++ rest }) ∧
    (∀ x, o = .threw x → ∀ tg, Steps p.tables e below ((T'.setTop { g with stack := rest }).pushFrame (.throwing x)) tg → Steps p.tables e below (T.setTop g) tg)
variable {H : Heap}
/-- from the invoking instruction on, whatever it is -/
theorem xc_site {y : MethodName} {ws : List Cond} {rm : Room} {Pc : Array Value → State → Prop} {Qc : Array Value → State → Outcome → State → Prop} {mc ms n maxL : Nat} {free : Addr → Prop} {g : JFrame} {rest : List Value} {ig : Instr} {a : Array Value}
    (hM : xc_Met l y ws rm Pc Qc mc ms free) (cw : xc_B R s args y maxL ws rm mc ms n) (hbl : FrameBlind Pc) (hPc : ∀ U : State, U.heap = H → s.WarmedH U.vm → Pc a U)
    (hg : g.method = m) (hsize : g.locals.size = c.maxLocals) (hW : 2 * g.monitorRoom + (rest.map fun v => v.category).sum ≤ 8) (hdg : decode c.code g.pc = .ok (ig, 3)) (hf : cells + mc ≤ R.cells ∧ slots + ms ≤ R.slots)
    (hinv : ∀ (T : State) (mk : MethodId), T.heap = H → Stand p l e R s m args below meth c T locs cells slots → s.methodNamed? y = some mk → ∃ vm', Stand p l e R s m args below meth c (T.setVm vm') locs cells slots ∧
      ∀ target, (∀ acts, Steps p.tables e below (doInvoke e ((T.setVm vm').setTop { g with stack := rest }) acts mk a).1 target) → Steps p.tables e below (T.setTop g) target) :
    xc_Run p l e R s m args below meth c H locs cells slots mc ms g rest (Qc a) free := by
  intro T hT X
  obtain ⟨hrc, hrs, hfr, hlo, hws, ⟨mk, methY, cY, hn, hmY, hcY, hlY, -⟩, hini, -, -⟩ := cw
  obtain ⟨vm', X₁, hst⟩ := hinv T mk hT X hn
  obtain ⟨o, t, U', L, X', hL, e1, e2, hq, hret, hthr⟩ := xc_back (g := { g with stack := rest }) (mk := mk) (a := a) (methY := methY) (cY := cY) hM X₁ hg hsize hdg hW (X₁.named hn)
    (by rw [X₁.warmed.alike.method?]; exact hmY) hcY hlY (word_at X₁.warmed (Or.inl (by first | rfl | simp [Cond.onTables, Cond.keeps, Cond.steady])) hini) (fun w hw => hws w hw _ _ X₁.warmed) hfr hlo (by rw [hrc]; exact hf.1) (by rw [hrs]; exact hf.2)
    (hbl _ _ _ _ (hPc (T.setVm vm') hT X₁.warmed))
  refine ⟨o, (T.setVm vm').calling { g with stack := rest } mk a, t, U', L, hT, X', hL, e1, e2, hq, ?_, ?_⟩
  · intro v hv target h
    exact hst _ fun acts => by rw [doInvoke_state]; exact (hret v hv).trans h
  · intro x hx target h
    exact hst _ fun acts => by rw [doInvoke_state]; exact (hthr x hx).trans h
variable {y : MethodName} {cc : ByteArray} {maxL nL mc ms n index : Nat} {ws : List Cond} {rm : Room} {Pc : Array Value → State → Prop} {Qc : Array Value → State → Outcome → State → Prop} {free : Addr → Prop} {Ts : List Cond} {own C host : String} {b : Addr} {As rest : List Value} {g : JFrame}
theorem xc_runV (S : CallFix p m c cc nL s args Ts own) (hM : xc_Met l y ws rm Pc Qc mc ms free) (cw : xc_B R s args y maxL ws rm mc ms n) (hlink : (Cond.methodLink own index y).before args s = true) (hin : (Cond.instanceMethod y).before args s = true) (hse : (Cond.selects C y y).before args s = true) (hp : PreV s H C b Pc As)
    (hg : g.method = m) (hn : As.length = n) (hsize : g.locals.size = nL) (hstack : g.stack = As.reverse ++ .ref b :: rest) (hW : 2 * g.monitorRoom + (rest.map fun v => v.category).sum ≤ 8) (hdg : decode cc g.pc = .ok (.invokevirtual index, 3)) (hf : cells + mc ≤ R.cells ∧ slots + ms ≤ R.slots) :
    xc_Run p l e R s m args below meth c H locs cells slots mc ms g rest (Qc (Value.ref b :: As).toArray) free := by
  obtain ⟨hx, hb, hml, ho, -⟩ := S
  obtain ⟨hbl, ⟨cellB, hcB, hoB, hclB⟩, hPc⟩ := hp
  obtain ⟨-, -, -, -, -, ⟨mk0, methY, cY, hn0, hmY, hcY, hlY, hsig⟩, -, hy, hlen⟩ := id cw
  obtain ⟨mk, methM, hnamed, hmethM, hstM, habM⟩ := Cond.instanceMethod_spec hin
  cases hn0.symm.trans hnamed
  cases hmY.symm.trans hmethM
  obtain ⟨c2, r2, m2, q1, q2, q3, q4, kP, hkP, hkPi⟩ := Cond.selects_spec hse
  cases hclB.symm.trans q1
  cases (State.methodFound?_of_named hnamed hy).symm.trans q2
  cases hnamed.symm.trans q3
  refine xc_site (ig := .invokevirtual index) hM cw hbl hPc hg (hsize.trans hml.symm) hW (by rw [hb]; exact hdg) hf ?_
  intro T mk' hT X hn'
  cases hnamed.symm.trans hn'
  exact X.invokevirtual hx ho hlink hnamed hmethM hstM hkP hkPi hy (a := b) (cell := cellB) (by rw [hT]; exact hcB)
    (fun z h => by rw [h] at hoB; cases hoB) (by rw [Launch.admits_selectMethod X.admits]; exact q4) hmethM habM hkP hkPi (g := g) hg (argsL := As) (rest := rest) (hn.trans (hlen _ hsig)) hstack (by rw [hb]; exact hdg)
theorem xc_runS (S : CallFix p m c cc nL s args Ts own) (hM : xc_Met l y ws rm Pc Qc mc ms free) (cw : xc_B R s args y maxL ws rm mc ms n) (hlink : (Cond.methodLink own index y).before args s = true) (hstt : (Cond.static y).before args s = true) (hp : PreS s H Pc As)
    (hg : g.method = m) (hn : As.length = n) (hsize : g.locals.size = nL) (hstack : g.stack = As.reverse ++ rest) (hW : 2 * g.monitorRoom + (rest.map fun v => v.category).sum ≤ 8) (hdg : decode cc g.pc = .ok (.invokestatic index, 3)) (hf : cells + mc ≤ R.cells ∧ slots + ms ≤ R.slots) :
    xc_Run p l e R s m args below meth c H locs cells slots mc ms g rest (Qc As.toArray) free := by
  obtain ⟨hx, hb, hml, ho, -⟩ := S
  obtain ⟨hbl, hPc⟩ := hp
  obtain ⟨-, -, -, -, -, ⟨mk0, methY, cY, hn0, hmY, hcY, hlY, hsig⟩, hini, hy, hlen⟩ := id cw
  have hstatic : methY.isStatic = true := Cond.static_spec hn0 hmY hstt
  obtain ⟨kP, hkP, -⟩ := className_of_methodNamed hn0
  have hinitP : kP.init = .initialized := Cond.initialized_spec (findClass_of_methodNamed hn0) hkP hini
  refine xc_site (ig := .invokestatic index) hM cw hbl hPc hg (hsize.trans hml.symm) hW (by rw [hb]; exact hdg) hf ?_
  intro T mk' hT X hn'
  cases hn0.symm.trans hn'
  exact X.invokestatic hx ho hlink hn0 hmY hstatic hkP hinitP hy (g := g) hg (argsL := As) (rest := rest) (hn.trans (hlen _ hsig)) hstack (by rw [hb]; exact hdg)
end XC2
end
section
/-! XC: posts, catching, throwing -/
/-- x is a living object of the class C -/
def xc_Ex (C : String) (x : Addr) (t : State) : Prop := ∃ cell : Cell, t.heap[x]? = some cell ∧ cell.vm.isStatics = false ∧ t.vm.findClass C = some cell.cls
/-- the end of a method: it returned v with post v u, or threw an object of the class C with thr C u; B u t: the world behind it -/
def xc_Q {S : Type} (post : Option Value → S → Prop) (thr : String → S → Prop) (B : S → State → Prop) (A : Nat → Prop) : Array Value → State → Outcome → State → Prop := fun _ st oc t =>
  ((∃ (v : Option Value) (u : S), oc = .returned v ∧ post v u ∧ B u t) ∨ (∃ (x : Addr) (C : String) (u : S), oc = .threw x ∧ thr C u ∧ xc_Ex C x t ∧ B u t)) ∧ va_F A st t
theorem xc_Ex.moved {C : String} {x : Addr} {t U : State} (hh : U.heap = t.heap) (hv : t.vm.Alike U.vm) (h : xc_Ex C x t) : xc_Ex C x U := by
  obtain ⟨cell, h1, h2, h3⟩ := h
  exact ⟨cell, by rw [hh]; exact h1, h2, by rw [hv.findClass]; exact h3⟩
section XC3
variable {p : Program} {l : Launch} {e : Env} {R : Room} {s : State} {m : MethodId} {args : Array Value} {below : List Frame} {meth : Method} {c : Code} {H : Heap} {locs : List Loc} {cells slots : Nat} {Q : State → Prop}
variable {pc : Nat} {ls : Array Slot} {rest st0 : List Value} {a : Array Value} {A0 A1 : Nat → Prop} {H0 : Heap} {mc ms : Nat} {free : Addr → Prop}
/-- behind a call that may throw: two roads -/
theorem xc_call {S : Type} {post : Option Value → S → Prop} {thr : String → S → Prop} {B : S → State → Prop} (hr : xc_Run p l e R s m args below meth c H locs cells slots mc ms (F0 m pc ls st0) rest (xc_Q post thr B A1 a) free) (hS : va_S A0 H0 H locs) (hA : ∀ q, q < H.size → A1 q → A0 q) (hf : ∀ q, free q → A0 q)
    (kk : ∀ (v : Option Value) (u : S) (t : State) (H1 : Heap) (locs1 : List Loc), t.heap = H1 → s.vm.Alike t.vm → post v u → B u t → H.size ≤ H1.size → (∀ q : Nat, q < H.size → ¬ A1 q → H1[q]? = H[q]?) → va_S A0 H0 H1 locs1 → W p l e R s m args below meth c H1 locs1 (cells + mc) (slots + ms) Q (F0 m (pc + 3) ls (v.toList ++ rest)))
    (kt : ∀ (x : Addr) (C : String) (u : S) (t : State) (H1 : Heap) (locs1 : List Loc), t.heap = H1 → s.vm.Alike t.vm → thr C u → xc_Ex C x t → B u t → H.size ≤ H1.size → (∀ q : Nat, q < H.size → ¬ A1 q → H1[q]? = H[q]?) → va_S A0 H0 H1 locs1 → xc_TW p l e R s m args below meth c H1 locs1 (cells + mc) (slots + ms) Q (F0 m pc ls rest) x) :
    W p l e R s m args below meth c H locs cells slots Q (F0 m pc ls st0) := by
  intro T hT X
  obtain ⟨o, st₀, t, T', L, h0, X', hL, e1, e2, ⟨hor, hz, hk⟩, hret, hthr⟩ := hr T hT X
  rw [h0] at hz hk
  have hS1 : va_S A0 H0 T'.heap (locs ++ L) := ⟨Nat.le_trans hS.1 (by rw [e1]; exact hz), fun q h1 h2 => by rw [e1, hk q (Nat.lt_of_lt_of_le h1 hS.1) (fun z => h2 (hA q (Nat.lt_of_lt_of_le h1 hS.1) z))]; exact hS.2.1 q h1 h2, fun q hq => by
      rcases List.mem_append.mp hq with h | h
      · exact hS.2.2 q h
      · exact hf _ (hL q h)⟩
  have hal : s.vm.Alike t.vm := by rw [← e2]; exact X'.warmed.alike
  rcases hor with ⟨v, u, hv, hp, hb⟩ | ⟨x, C, u, hv, hp, hxx, hb⟩
  · obtain ⟨t2, a1, b1⟩ := kk v u t T'.heap (locs ++ L) e1.symm hal hp hb (by rw [e1]; exact hz) (fun q h1 h2 => by rw [e1]; exact hk q h1 h2) hS1 T' rfl X'
    exact ⟨t2, hret v hv t2 a1, b1⟩
  · obtain ⟨t2, a1, b1⟩ := kt x C u t T'.heap (locs ++ L) e1.symm hal hp hxx hb (by rw [e1]; exact hz) (fun q h1 h2 => by rw [e1]; exact hk q h1 h2) hS1 T' rfl X'
    exact ⟨t2, hthr x hv t2 a1, b1⟩
end XC3
/-- the rows of a handlers' table, all of them over pc: which one takes an object of the class C -/
def xc_Fnd (s : State) (args : Array Value) (own C : String) (pc tgt : Nat) : List (Nat × Nat × Nat × Nat) → Prop
  | [] => False
  | q :: r => (q.1 ≤ pc ∧ pc < q.2.1) ∧ q.2.2.2 ≠ 0 ∧ ∃ name, (Cond.classLink own q.2.2.2 name).before args s = true ∧ (((Cond.castable C name).before args s = true ∧ tgt = q.2.2.1) ∨ (va_Nc C name s ∧ xc_Fnd s args own C pc tgt r))
section XC4
variable {e : Env}
theorem xc_go {f : JFrame} {a : Addr} {cell : Cell} {own C : String} {args : Array Value} {s₀ : State} (hpl : e.platform.magicAccessors = ({} : Platform).magicAccessors) (hown : s₀.vm.findClass own = some f.method.cls) (hC : s₀.vm.findClass C = some cell.cls) (hobj : cell.vm.isStatics = false) (tgt : Nat) :
    ∀ (es : List ExceptionTableEntry) (S : State), s₀.WarmedH S.vm → S.heap[a]? = some cell → xc_Fnd s₀ args own C f.pc tgt (es.map fun h => (h.startPc, h.endPc, h.handlerPc, h.catchType)) →
      ∃ vm', s₀.WarmedH vm' ∧ ∀ (Q : Handler → Pre) (E : CtlPost) (d : Bool) (acts : List Action), wp (findHandler.go f a es) Q E e d acts S ↔ Q (.found tgt) d acts (S.setVm vm') := by
  have hst : ∀ k, cell.vm ≠ .statics k := VmData.ne_statics_of hobj
  obtain ⟨k0, hk0⟩ := Vm.classAt_of_findClass hC
  intro es
  induction es with
  | nil => intro S _ _ h; exact absurd h id
  | cons y ys ih =>
    intro S hW hcell h
    obtain ⟨⟨h1, h2⟩, h0, name, hl, hor⟩ := h
    dsimp only at h1 h2 h0 hl hor
    obtain ⟨cT, hcT, hcl⟩ := Cond.classLink_spec hown hl e.platform hpl
    obtain ⟨dk, _, _, kt, hd, _, _, _, _, hkt, _, hopen⟩ := hcl.here
    have hW' : s₀.WarmedH (S.vm.noted f.method.cls y.catchType (.cls cT)) := hW.noted hd hopen (State.rightAt_cls hcl)
    obtain ⟨ha, ht⟩ := (resolveClass_links e.toSetting (hW.classLinks hcl)).op (op := VmOp.resolveClass f.method.cls y.catchType) rfl
    obtain ⟨k1, hk1, -⟩ := hW'.alike.2.2 _ _ hk0
    obtain ⟨k2, hk2, -⟩ := hW'.alike.2.2 _ _ hkt
    rcases hor with ⟨hcast, htg⟩ | ⟨hno, hrest⟩
    · refine ⟨_, hW', fun Q E d acts => ?_⟩
      obtain ⟨c3, c4, g3, g4, hasg⟩ := Cond.castable_spec hcast
      cases hC.symm.trans g3
      cases hcT.symm.trans g4
      have hfit : (S.vm.noted f.method.cls y.catchType (.cls cT)).assignable cell.cls cT = true := by rw [hW'.alike.assignable]; exact hasg
      subst htg
      simp [findHandler.go, h1, h2, h0, ha, ht, hcell, hst, hk1, hk2, hfit, VmOp.dirties, VmOp.acts]
    · obtain ⟨c3, c4, g3, g4, hasg⟩ := hno
      cases hC.symm.trans g3
      cases hcT.symm.trans g4
      have hfit : (S.vm.noted f.method.cls y.catchType (.cls cT)).assignable cell.cls cT = false := by rw [hW'.alike.assignable]; exact hasg
      obtain ⟨vm', hW2, hq⟩ := ih (S.setVm (S.vm.noted f.method.cls y.catchType (.cls cT))) hW' hcell hrest
      refine ⟨vm', hW2, fun Q E d acts => ?_⟩
      have hq' := hq Q E
      have e1 : ∀ (d : Bool) (acts : List Action), wp (findHandler.go f a (y :: ys)) Q E e d acts S ↔ wp (findHandler.go f a ys) Q E e d acts (S.setVm (S.vm.noted f.method.cls y.catchType (.cls cT))) := by
        intro d acts
        simp [findHandler.go, h1, h2, h0, ha, ht, hcell, hst, hk1, hk2, hfit, VmOp.dirties, VmOp.acts]
      rw [e1, hq']
      rfl
/-- a search that ends in a handler and has warmed the tables -/
theorem xc_stepCatch {s : State} {a : Addr} {f : JFrame} {r : List Frame} {pc : Nat} {vm' : Vm} (hfind : ∀ (Q : Handler → Pre) (E : CtlPost) (d : Bool) (acts : List Action), wp (findHandler f a) Q E e d acts s ↔ Q (.found pc) d acts (s.setVm vm')) :
    (stepThrowing e s a (.java f :: r)).Is ((s.setVm vm').setFrames (.java { f with pc := pc, stack := [.ref a] } :: r)) [] := by
  simp only [stepThrowing, searchFrame, vmDo]
  generalize hr : Sem.go _ e false [] s = res
  obtain ⟨as, rfl, ha⟩ := Sem.eq_ok_of hr (a := Handler.found pc) (s' := s.setVm vm') (acts' := []) (by simp [hfind])
  exact ⟨rfl, ha⟩
theorem xc_caught {tb : Tables} {s target : State} {g : JFrame} {c : Code} {below : List Frame} {a : Addr} (h : At s g.method c below) {pc : Nat} {vm' : Vm}
    (hfind : ∀ (Q : Handler → Pre) (E : CtlPost) (d : Bool) (acts : List Action), wp (findHandler g a) Q E e d acts ((s.setTop g).pushFrame (.throwing a)) ↔ Q (.found pc) d acts (((s.setTop g).pushFrame (.throwing a)).setVm vm'))
    (hrest : Steps tb e below ((s.setVm vm').setTop { g with pc := pc, stack := [.ref a] }) target) : Steps tb e below ((s.setTop g).pushFrame (.throwing a)) target := by
  obtain ⟨hgo, hw⟩ := h.throwing a
  refine Steps.head hgo hw ?_
  rw [stepThread_throwing (frames_entered h.top _), (xc_stepCatch (s := (s.setTop g).pushFrame (.throwing a)) hfind).1]
  obtain ⟨g₀, hg⟩ := Option.isSome_iff_exists.mp h.top
  obtain ⟨r, hr⟩ := State.topJava?_eq_some.mp hg
  have hr' : (s.setVm vm').frames = .java g₀ :: r := hr
  rw [State.setTop_of_frames _ hr'] at hrest
  have e1 : ((((s.setTop g).pushFrame (.throwing a)).setVm vm').setFrames (.java { g with pc := pc, stack := [.ref a] } :: s.frames.tail)) = (s.setVm vm').setFrames (.java { g with pc := pc, stack := [.ref a] } :: r) := by
    rw [State.pushFrame, State.setTop_of_frames _ hr, State.setFrames_setFrames, hr]
    show (((s.setVm vm').setFrames _).setFrames _) = _
    rw [State.setFrames_setFrames]
    rfl
  rw [e1]
  exact hrest
end XC4
section XC5
variable {p : Program} {l : Launch} {e : Env} {R : Room} {s : State} {m : MethodId} {args : Array Value} {below : List Frame} {meth : Method} {c : Code} {H : Heap} {locs : List Loc} {cells slots : Nat} {Q : State → Prop}
/-- it is caught here -/
theorem xc_catch {own C : String} {hh : List (Nat × Nat × Nat × Nat)} {pc tgt : Nat} {ls : Array Slot} {st : List Value} {x : Addr} {t : State} (hown : s.vm.findClass own = some m.cls) (hrows : c.exceptionTable.toList.map (fun h => (h.startPc, h.endPc, h.handlerPc, h.catchType)) = hh)
    (hth : t.heap = H) (hal : s.vm.Alike t.vm) (hx : xc_Ex C x t) (hf : xc_Fnd s args own C pc tgt hh) (kk : W p l e R s m args below meth c H locs cells slots Q (F0 m tgt ls [.ref x])) :
    xc_TW p l e R s m args below meth c H locs cells slots Q (F0 m pc ls st) x := by
  intro T hT X
  obtain ⟨cell, g1, g2, g3⟩ := hx
  have hpl : e.platform.magicAccessors = ({} : Platform).magicAccessors := by rw [X.admits.platform]
  have hC : s.vm.findClass C = some cell.cls := by rw [← hal.findClass]; exact g3
  have hcell : T.heap[x]? = some cell := by rw [hT, ← hth]; exact g1
  rw [← hrows] at hf
  obtain ⟨vm', hW', hq⟩ := xc_go (e := e) (f := F0 m pc ls st) (a := x) (args := args) hpl hown hC g2 tgt c.exceptionTable.toList ((T.setTop (F0 m pc ls st)).pushFrame (.throwing x)) X.warmed hcell hf
  obtain ⟨t2, a1, b1⟩ := kk (T.setVm vm') hT (X.noted hW')
  refine ⟨t2, ?_, b1⟩
  exact xc_caught (g := F0 m pc ls st) X.here (fun Q E d acts => by rw [W.findHandler_eq (meth := meth) (code := c) X.method' X.code]; exact hq Q E d acts) a1
/-- the walk from here on, as a walk that begins here: the heap as it stands is the start's -/
theorem xc_rebase {T : State} (X : Stand p l e R s m args below meth c T locs cells slots) {R' : Room} (h1 : R'.frames ≤ R.frames) (h2 : R'.locals ≤ R.locals) (h3 : cells + R'.cells ≤ R.cells) (h4 : slots + R'.slots ≤ R.slots) :
    Stand p l e R' ({ s with heap := T.heap, slotsUsed := T.slotsUsed } : State) m args below meth c T [] 0 0 := by
  have hroom : ({ s with heap := T.heap, slotsUsed := T.slotsUsed } : State).hasRoom e.platform R' = true := by
    have r := X.room
    have c1 := X.cellsAbove (n := R'.cells) h3
    have c2 := X.slotsAbove (n := R'.slots) h4
    have bk := X.book
    simp only [State.hasRoom, Bool.and_eq_true, decide_eq_true_eq] at r ⊢
    obtain ⟨⟨⟨⟨r1, r2, r3, r4, r5, r6⟩, r7⟩, r8⟩, r9⟩ := r
    refine ⟨⟨⟨⟨?_, ?_, ?_, ?_, ?_, ?_⟩, ?_⟩, ?_⟩, ?_⟩
    · exact Nat.le_trans (by show s.localsInUse + R'.locals + stackMargin ≤ s.localsInUse + R.locals + stackMargin; omega) r1
    · exact Nat.le_trans (by show s.frames.length + R'.frames ≤ s.frames.length + R.frames; omega) r2
    · exact Nat.le_trans (by show s.frames.length + R'.frames ≤ s.frames.length + R.frames; omega) r3
    · exact Nat.le_trans (by show s.localsInUse + R'.locals ≤ s.localsInUse + R.locals; omega) r4
    · exact Nat.le_trans (by show s.localsInUse + R'.locals ≤ s.localsInUse + R.locals; omega) r5
    · exact r6
    · exact c1
    · exact c2
    · exact bk
  have hdr : T.heap.toList.drop T.heap.size = [] := List.drop_of_length_le (Nat.le_of_eq Array.length_toList)
  refine ⟨X.admits, X.cas, X.clock, X.frames, hroom, X.hears, X.method, X.code, X.here, X.tail, X.warmed, X.limits, X.bytes, ?_⟩
  refine ⟨?_, Nat.le_refl _, Nat.le_refl _, ?_, ?_, ?_⟩
  · have h := X.same.1
    exact h
  · show T.slotsUsed = T.slotsUsed + ((T.heap.toList.drop T.heap.size).map (fun z => z.slots.size)).sum
    rw [hdr]; rfl
  · show ((T.heap.toList.drop T.heap.size).map (fun z => z.slots.size)).sum ≤ 0
    rw [hdr]; exact Nat.le_refl 0
  · intro a0 c0 hc0
    exact ⟨c0, hc0, rfl, rfl, fun _ _ => rfl⟩
end XC5
end
section
/-! XC: 'throw new C()', without a trace -/
/-- Throwable's static field n is there, holds a reference or null, and lies outside A -/
def xc_Zs (A : Nat → Prop) (U : State) (H : Heap) (n d : String) : Prop := ∃ (c : ClassId) (k : Class) (i : Nat) (f : Field) (a : Nat) (cell : Cell) (v : Value), U.vm.findClass Bundle.tN = some c ∧ U.fieldFound? Bundle.tN n d = some (c, k, i, f) ∧ f.isStatic = true ∧ k.statics = some a ∧ H[a]? = some cell ∧ cell.vm.isStatics = true ∧ cell.cls = c ∧
  f.slot < cell.slots.size ∧ k.staticTypes[f.slot]? = some f.type ∧ cell.slots[f.slot]? = some v ∧ (v = .null ∨ ∃ r, v = .ref r) ∧ ¬ A a
theorem xc_Zs.kept {A : Nat → Prop} {U : State} {H H1 : Heap} {n d : String} (h : xc_Zs A U H n d) (hq : ∀ a : Nat, a < H.size → ¬ A a → H1[a]? = H[a]?) : xc_Zs A U H1 n d := by
  obtain ⟨c, k, i, f, a, cell, v, h1, h2, h3, h4, h5, h6, h7, h8, h9, h10, h11, h12⟩ := h
  exact ⟨c, k, i, f, a, cell, v, h1, h2, h3, h4, by rw [hq a (Array.getElem?_eq_some_iff.mp h5).1 h12]; exact h5, h6, h7, h8, h9, h10, h11, h12⟩
theorem xc_Zs.narrow {A B : Nat → Prop} {U : State} {H : Heap} {n d : String} (h : xc_Zs A U H n d) (hAB : ∀ q, q < H.size → B q → A q) : xc_Zs B U H n d := by
  obtain ⟨c, k, i, f, a, cell, v, h1, h2, h3, h4, h5, h6, h7, h8, h9, h10, h11, h12⟩ := h
  exact ⟨c, k, i, f, a, cell, v, h1, h2, h3, h4, h5, h6, h7, h8, h9, h10, h11, fun z => h12 (hAB a (Array.getElem?_eq_some_iff.mp h5).1 z)⟩
theorem xc_Zs.moved {A : Nat → Prop} {u U : State} {H : Heap} {n d : String} (hvm : u.vm.Alike U.vm) (h : xc_Zs A u H n d) : xc_Zs A U H n d := by
  obtain ⟨c, k, i, f, a, cell, v, h1, h2, h3, h4, h5, h6, h7, h8, h9, h10, h11, h12⟩ := h
  obtain ⟨k', hi', he⟩ := State.fieldFound?_setVm hvm h2
  exact ⟨c, k', i, f, a, cell, v, by rw [hvm.findClass]; exact h1, hi', h3, by rw [he]; exact h4, h5, h6, h7, h8, by rw [he]; exact h9, h10, h11, h12⟩
theorem xc_Zs.of {A : Nat → Prop} {args : Array Value} {s : State} {n d : String} (hl : (Cond.laysStatic Bundle.tN n d).before args s = true) (hr : (Cond.isRef (.static Bundle.tN n d)).before args s = true) (hA : ∀ a : Nat, a < s.heap.size → ¬ A a) : xc_Zs A s s.heap n d := by
  obtain ⟨c, k, i, f, a, cell, g1, g2, g3, g4, g5, g6, g7, g8, g9⟩ := Cond.laysStatic_spec hl
  have hv : ∃ v, cell.slots[f.slot]? = some v ∧ (v = .null ∨ ∃ r, v = .ref r) := by
    have he : (Term.static Bundle.tN n d).eval args s none [] s = cell.slots[f.slot]? := by
      simp [Term.eval, State.fieldNamed?, g2, g3, g4, g5, g6]
    have hr' : (Cond.isRef (.static Bundle.tN n d)).holds args s none s [] = true := hr
    simp only [Cond.holds, Cond.value, he] at hr'
    cases hs : cell.slots[f.slot]? with
    | none => rw [hs] at hr'; simp at hr'
    | some v => rw [hs] at hr'; cases v <;> simp at hr' <;> first | exact ⟨_, rfl, Or.inl rfl⟩ | exact ⟨_, rfl, Or.inr ⟨_, rfl⟩⟩
  obtain ⟨v, hv1, hv2⟩ := hv
  exact ⟨c, k, i, f, a, cell, v, g1, g2, g3, g4, g5, g6, g7, g8, g9, hv1, hv2, hA a (Array.getElem?_eq_some_iff.mp g5).1⟩
theorem xc_Zs.words {A : Nat → Prop} {U V : State} {n d : String} {args : Array Value} (h : xc_Zs A U V.heap n d) (hvm : U.vm.Alike V.vm) : (Cond.laysStatic Bundle.tN n d).before args V = true ∧ (Cond.isRef (.static Bundle.tN n d)).before args V = true := by
  obtain ⟨c, k, i, f, a, cell, v, h1, h2, h3, h4, h5, h6, h7, h8, h9, h10, h11, -⟩ := h.moved hvm
  constructor
  · simp [Cond.before, Cond.holds, Cond.value, h1, h2, h3, h4, h5, h6, h7, h8, h9]
  · have he : (Term.static Bundle.tN n d).eval args V none [] V = some v := by
      simp [Term.eval, State.fieldNamed?, h2, h3, h4, h5, h6, h10]
    rcases h11 with rfl | ⟨r, rfl⟩ <;> simp [Cond.before, Cond.holds, Cond.value, he]
/-- what 'throw new' needs of Throwable's statics -/
def xc_Th (A : Nat → Prop) (U : State) (H : Heap) : Prop := xc_Zs A U H "UNASSIGNED_STACK" Bundle.steD ∧ xc_Zs A U H "SUPPRESSED_SENTINEL" Bundle.listD
theorem xc_Th.kept {A : Nat → Prop} {U : State} {H H1 : Heap} (h : xc_Th A U H) (hq : ∀ a : Nat, a < H.size → ¬ A a → H1[a]? = H[a]?) : xc_Th A U H1 := ⟨h.1.kept hq, h.2.kept hq⟩
theorem xc_Th.narrow {A B : Nat → Prop} {U : State} {H : Heap} (h : xc_Th A U H) (hAB : ∀ q, q < H.size → B q → A q) : xc_Th B U H := ⟨h.1.narrow hAB, h.2.narrow hAB⟩
theorem xc_Th.moved {A : Nat → Prop} {u U : State} {H : Heap} (hvm : u.vm.Alike U.vm) (h : xc_Th A u H) : xc_Th A U H := ⟨h.1.moved hvm, h.2.moved hvm⟩
/-- the words of 'throw new C()' that speak of the tables alone -/
def xc_ws (own : String) (i1 i2 : Nat) (C : String) (names : List String) : List Cond :=
  (Cond.classLink own i1 C) :: (Cond.initialized C) :: (Bundle.ownAtoms0 own i2 C names).filter (fun w => w.onTables)
def xc_heapw : List Cond := [.laysStatic Bundle.tN "UNASSIGNED_STACK" Bundle.steD, .laysStatic Bundle.tN "SUPPRESSED_SENTINEL" Bundle.listD, .isRef (.static Bundle.tN "UNASSIGNED_STACK" Bundle.steD), .isRef (.static Bundle.tN "SUPPRESSED_SENTINEL" Bundle.listD)]
theorem xc_sf {s T : State} (h : T.setVm s.vm = { s.setFrames T.frames with heap := T.heap, slotsUsed := T.slotsUsed }) (F : List Frame) (h1 : Heap) (n1 : Nat) : ({ T.setFrames F with heap := h1, slotsUsed := n1 } : State) = ({ s.setFrames F with heap := h1, slotsUsed := n1 } : State).setVm T.vm := by
  have e0 := congrArg (fun z : State => z.setVm T.vm) h
  have e : T = ({ s.setFrames T.frames with heap := T.heap, slotsUsed := T.slotsUsed } : State).setVm T.vm := e0
  clear e0 h
  generalize T.vm = v0 at e ⊢
  generalize T.frames = F0 at e
  generalize T.heap = h0 at e
  generalize T.slotsUsed = n0 at e
  subst e
  have e2 : (({ s.setFrames F0 with heap := h0, slotsUsed := n0 } : State).setVm v0).setFrames F = ({ (s.setFrames F0).setFrames F with heap := h0, slotsUsed := n0 } : State).setVm v0 := rfl
  rw [e2, State.setFrames_setFrames]
  rfl
section XC6
variable {p : Program} {l : Launch} {e : Env} {R : Room} {s : State} {m : MethodId} {args : Array Value} {below : List Frame} {meth : Method} {c : Code} {H : Heap} {locs : List Loc} {cells slots : Nat}
variable {cc : ByteArray} {pc nL : Nat} {ls : Array Slot} {rest : List Value}
theorem xc_new1 {own C : String} {names : List String} {i1 i2 : Nat} (hx : p.tables.exec = Jvm.exec) (hb : c.code = cc) (hml : c.maxLocals = nL) (hls : ls.size = nL) (hown : s.vm.findClass own = some m.cls) (hlocks : meth.locks = false) (hno : ∀ z ∈ c.exceptionTable.toList, False) (htr : e.platform.stackTraces = false)
    (hfit : Bundle.fit C = true) (hnames : ∀ n ∈ names, Bundle.fit n = true) (hws' : ∀ w ∈ Bundle.ownAtoms0 own i2 C names, w.before args s = true) (hcl : (Cond.classLink own i1 C).before args s = true) (hini : (Cond.initialized C).before args s = true) (hins : Cond.instantiable C 6 ∈ Bundle.ownAtoms0 own i2 C names)
    (d0 : decode cc pc = .ok (.new i1, 3)) (d3 : decode cc (pc + 3) = .ok (.dup, 1)) (d4 : decode cc (pc + 3 + 1) = .ok (.invokespecial i2, 3)) (d7 : decode cc (pc + 3 + 1 + 3) = .ok (.athrow, 1))
    (hcells : 0 + 1 ≤ R.cells) (hslots : 0 + 6 ≤ R.slots) (hfr : names.length + 3 < R.frames) (hlo : (rest.map fun v => v.category).sum + 1 + (13 * (names.length + 1) + 41) ≤ R.locals) (hsz : H.size = s.heap.size) :
    W p l e R s m args below meth c H [] 0 0 (fun t => ∃ x : Addr, t.status = .running ∧ Ended t below (.threw x) ∧ s.WarmedH t.vm ∧ s.sameButNew ({ t with vm := s.vm } : State) [] 1 6 ∧ xc_Ex C x t) (F0 m pc ls rest) := by
  refine W.newc (own := own) (C := C) (n := 6) hx hb hown hcl (hws' _ hins) hini rfl d0 hcells hslots ?_
  intro cC kC f1 f2 f3 f4
  refine lv_dup hx hb d3 rfl ?_
  intro T2 hT2 X2
  obtain ⟨U, hsteps, hrun, hend, hW, hsame, ce, hce, hoc⟩ := X2.ctorThrow0 (g := F0 m (pc + 3 + 1) ls (.ref H.size :: .ref H.size :: rest)) (own := own) (cls := C) (names := names) (ic := i2) (a := H.size) (cX := cC) (kX := kC) (rest := rest) hx htr hown hfit hnames hws'
    (fun x hx => by cases hx) f1 f2 (by rw [hT2]; simp) (by rw [hsz]; exact Nat.le_refl _) rfl (by rw [hml]; exact hls) rfl rfl rfl (by rw [hb]; exact d4) (by rw [hb]; exact d7) (fun z hz => absurd (hno z hz) id) hfr
    (by rw [List.map_cons, List.sum_cons, show (Value.ref H.size).category = 1 from rfl]; show 2 * 0 + _ + _ ≤ _; omega) hlocks
  refine ⟨U, hsteps, H.size, hrun, hend, hW, hsame, ce, hce, ?_, ?_⟩
  · rw [hoc.vm]; rfl
  · rw [hW.alike.findClass]
    exact hoc.cls
theorem xc_thrownew {A : Nat → Prop} {Qc : Array Value → State → Outcome → State → Prop} {free : Addr → Prop} {own C : String} {names : List String} {i1 i2 : Nat} (hx : p.tables.exec = Jvm.exec) (hb : c.code = cc) (hml : c.maxLocals = nL) (hls : ls.size = nL) (hown : s.vm.findClass own = some m.cls) (hlocks : meth.locks = false) (hno : ∀ z ∈ c.exceptionTable.toList, False) (htr : e.platform.stackTraces = false)
    (hfit : Bundle.fit C = true) (hnames : ∀ n ∈ names, Bundle.fit n = true) (hws : ∀ w ∈ xc_ws own i1 i2 C names, w.before args s = true) (hrest : ∀ w ∈ Bundle.ownAtoms0 own i2 C names, w.onTables = false → w ∈ xc_heapw) (hins : Cond.instantiable C 6 ∈ Bundle.ownAtoms0 own i2 C names)
    (hTh : xc_Th A s H) (d0 : decode cc pc = .ok (.new i1, 3)) (d3 : decode cc (pc + 3) = .ok (.dup, 1)) (d4 : decode cc (pc + 3 + 1) = .ok (.invokespecial i2, 3)) (d7 : decode cc (pc + 3 + 1 + 3) = .ok (.athrow, 1))
    (hcells : cells + 1 ≤ R.cells) (hslots : slots + 6 ≤ R.slots) (hfr : names.length + 3 < R.frames) (hlo : (rest.map fun v => v.category).sum + 1 + (13 * (names.length + 1) + 41) ≤ R.locals)
    (hq : ∀ (x : Addr) (t : State) (H1 : Heap), t.heap = H1 → H.size ≤ H1.size → (∀ q, q < H.size → H1[q]? = H[q]?) → s.WarmedH t.vm → xc_Ex C x t → Qc args s (.threw x) t) (hf : ∀ q ∈ locs, free q.base) :
    W p l e R s m args below meth c H locs cells slots (xc_MQ below Qc args s (cells + 1) (slots + 6) free) (F0 m pc ls rest) := by
  intro T hT X
  subst hT
  have X0 := xc_rebase X (R' := { R with cells := 1, slots := 6 }) (Nat.le_refl _) (Nat.le_refl _) hcells hslots
  have hws' : ∀ w ∈ Bundle.ownAtoms0 own i2 C names, w.before args ({ s with heap := T.heap, slotsUsed := T.slotsUsed } : State) = true := by
    intro w hw
    by_cases ho : w.onTables = true
    · exact va_tabs ho (rfl : s.vm = ({ s with heap := T.heap, slotsUsed := T.slotsUsed } : State).vm) (hws w (by
        refine List.mem_cons_of_mem _ (List.mem_cons_of_mem _ (List.mem_filter.mpr ⟨hw, ho⟩))))
    · have h2 := hrest w hw (by simpa using ho)
      obtain ⟨a1, a2⟩ := hTh.1.words (V := ({ s with heap := T.heap, slotsUsed := T.slotsUsed } : State)) (args := args) (Vm.Alike.refl _)
      obtain ⟨b1, b2⟩ := hTh.2.words (V := ({ s with heap := T.heap, slotsUsed := T.slotsUsed } : State)) (args := args) (Vm.Alike.refl _)
      simp only [xc_heapw, List.mem_cons, List.not_mem_nil, or_false] at h2
      rcases h2 with rfl | rfl | rfl | rfl
      · exact a1
      · exact b1
      · exact a2
      · exact b2
  have hcl : (Cond.classLink own i1 C).before args ({ s with heap := T.heap, slotsUsed := T.slotsUsed } : State) = true := va_tabs (u := s) (A := args) rfl rfl (hws _ List.mem_cons_self)
  have hini : (Cond.initialized C).before args ({ s with heap := T.heap, slotsUsed := T.slotsUsed } : State) = true := va_tabs (u := s) (A := args) rfl rfl (hws _ (List.mem_cons_of_mem _ List.mem_cons_self))
  obtain ⟨t, hsteps, x, hrun, hend, hW, hsame, hex⟩ := xc_new1 (l := l) (e := e) (below := below) (R := { R with cells := 1, slots := 6 }) (s := ({ s with heap := T.heap, slotsUsed := T.slotsUsed } : State)) (H := T.heap) (rest := rest) hx hb hml hls hown hlocks hno htr hfit hnames hws' hcl hini hins d0 d3 d4 d7 (Nat.le_refl 1) (Nat.le_refl 6) hfr hlo rfl T rfl X0
  have hkeep : ∀ q, q < T.heap.size → t.heap[q]? = T.heap[q]? := by
    intro q hqs
    obtain ⟨c', g1, g2, g3, g4⟩ := hsame.2.2.2.2.2 q T.heap[q] (Array.getElem?_eq_getElem hqs)
    have g1' : t.heap[q]? = some c' := g1
    have e1 : c'.slots = (T.heap[q]).slots := Array.ext_getElem? fun i => g4 i List.not_mem_nil
    rw [g1', Array.getElem?_eq_getElem hqs, g2, e1]
  have hsz : T.heap.size ≤ t.heap.size := hsame.2.1
  have hTt : T.sameButNew ({ t with vm := T.vm } : State) [] 1 6 := by
    refine ⟨?_, hsame.2.1, hsame.2.2.1, hsame.2.2.2.1, hsame.2.2.2.2.1, hsame.2.2.2.2.2⟩
    show ({ t with vm := T.vm } : State) = ({ T.setFrames t.frames with heap := t.heap, slotsUsed := t.slotsUsed } : State)
    rw [xc_sf X.same.1]
    have e0 := congrArg (fun z : State => z.setVm T.vm) hsame.1
    exact e0
  refine ⟨t, hsteps, .threw x, hrun, hend, hq x t t.heap rfl hsz hkeep hW hex, locs ++ [], ⟨hW, X.same.trans (hTt.setVm s.vm)⟩, fun q hq9 => hf q (by simpa using hq9)⟩
end XC6
end
section
/-- a private method of a class that the tables say can be made, by its rows of tables_1 -/
def lw_okq (q : MethodName × Nat) : Prop := (q.1.cls ≠ "java/lang/invoke/MethodHandle" ∧ q.1.cls ≠ "java/lang/invoke/VarHandle") ∧ Cond.instantiable q.1.cls q.2 ∈ tables_1 ∧ Cond.privateMethod q.1 ∈ tables_1 ∧ Cond.instanceMethod q.1 ∈ tables_1
theorem lw_p0 : lw_okq (⟨"java/lang/Throwable", "fillInStackTrace", "(I)Ljava/lang/Throwable;"⟩, 6) := ⟨⟨by decide +kernel, by decide +kernel⟩, List.mem_of_getElem? (i := 640) (by decide +kernel), List.mem_of_getElem? (i := 638) (by decide +kernel), List.mem_of_getElem? (i := 639) (by decide +kernel)⟩
theorem lw_p1 : lw_okq (⟨"PatchStore", "putOnTape", "(I)V"⟩, 11) := ⟨⟨by decide +kernel, by decide +kernel⟩, List.mem_of_getElem? (i := 38) (by decide +kernel), List.mem_of_getElem? (i := 666) (by decide +kernel), List.mem_of_getElem? (i := 667) (by decide +kernel)⟩
theorem lw_p2 : lw_okq (⟨"PatchStore", "repositoryAt", "(I)LPatchStore$Repository;"⟩, 11) := ⟨⟨by decide +kernel, by decide +kernel⟩, List.mem_of_getElem? (i := 38) (by decide +kernel), List.mem_of_getElem? (i := 701) (by decide +kernel), List.mem_of_getElem? (i := 702) (by decide +kernel)⟩
theorem lw_p3 : lw_okq (⟨"PatchStore", "tapeIsName", "()Z"⟩, 11) := ⟨⟨by decide +kernel, by decide +kernel⟩, List.mem_of_getElem? (i := 38) (by decide +kernel), List.mem_of_getElem? (i := 720) (by decide +kernel), List.mem_of_getElem? (i := 721) (by decide +kernel)⟩
theorem lw_p4 : lw_okq (⟨"PatchStore$Maker", "put", "(I)V"⟩, 5) := ⟨⟨by decide +kernel, by decide +kernel⟩, List.mem_of_getElem? (i := 441) (by decide +kernel), List.mem_of_getElem? (i := 751) (by decide +kernel), List.mem_of_getElem? (i := 752) (by decide +kernel)⟩
theorem lw_p5 : lw_okq (⟨"PatchStore$Maker", "putName", "([BI)V"⟩, 5) := ⟨⟨by decide +kernel, by decide +kernel⟩, List.mem_of_getElem? (i := 441) (by decide +kernel), List.mem_of_getElem? (i := 755) (by decide +kernel), List.mem_of_getElem? (i := 756) (by decide +kernel)⟩
theorem lw_p6 : lw_okq (⟨"PatchStore$Form", "isRising", "(II)Z"⟩, 1) := ⟨⟨by decide +kernel, by decide +kernel⟩, List.mem_of_getElem? (i := 275) (by decide +kernel), List.mem_of_getElem? (i := 775) (by decide +kernel), List.mem_of_getElem? (i := 776) (by decide +kernel)⟩
theorem lw_p7 : lw_okq (⟨"PatchStore$Form", "changesEnd", "(II)I"⟩, 1) := ⟨⟨by decide +kernel, by decide +kernel⟩, List.mem_of_getElem? (i := 275) (by decide +kernel), List.mem_of_getElem? (i := 782) (by decide +kernel), List.mem_of_getElem? (i := 783) (by decide +kernel)⟩
theorem lw_p8 : lw_okq (⟨"PatchStore$Form", "changeEnd", "(II)I"⟩, 1) := ⟨⟨by decide +kernel, by decide +kernel⟩, List.mem_of_getElem? (i := 275) (by decide +kernel), List.mem_of_getElem? (i := 787) (by decide +kernel), List.mem_of_getElem? (i := 788) (by decide +kernel)⟩
theorem lw_p9 : lw_okq (⟨"PatchStore$Form", "nameEnd", "(III)I"⟩, 1) := ⟨⟨by decide +kernel, by decide +kernel⟩, List.mem_of_getElem? (i := 275) (by decide +kernel), List.mem_of_getElem? (i := 791) (by decide +kernel), List.mem_of_getElem? (i := 792) (by decide +kernel)⟩
theorem lw_p10 : lw_okq (⟨"PatchStore$Form", "callEnd", "(II)I"⟩, 1) := ⟨⟨by decide +kernel, by decide +kernel⟩, List.mem_of_getElem? (i := 275) (by decide +kernel), List.mem_of_getElem? (i := 796) (by decide +kernel), List.mem_of_getElem? (i := 797) (by decide +kernel)⟩
theorem lw_p11 : lw_okq (⟨"PatchStore$Form", "insertEnd", "(II)I"⟩, 1) := ⟨⟨by decide +kernel, by decide +kernel⟩, List.mem_of_getElem? (i := 275) (by decide +kernel), List.mem_of_getElem? (i := 800) (by decide +kernel), List.mem_of_getElem? (i := 801) (by decide +kernel)⟩
theorem lw_p12 : lw_okq (⟨"PatchStore$Form", "placeEnd", "(II)I"⟩, 1) := ⟨⟨by decide +kernel, by decide +kernel⟩, List.mem_of_getElem? (i := 275) (by decide +kernel), List.mem_of_getElem? (i := 804) (by decide +kernel), List.mem_of_getElem? (i := 805) (by decide +kernel)⟩
theorem lw_p13 : lw_okq (⟨"PatchStore$Form", "lineEnd", "(II)I"⟩, 1) := ⟨⟨by decide +kernel, by decide +kernel⟩, List.mem_of_getElem? (i := 275) (by decide +kernel), List.mem_of_getElem? (i := 808) (by decide +kernel), List.mem_of_getElem? (i := 809) (by decide +kernel)⟩
theorem lw_p14 : lw_okq (⟨"PatchStore$Intake", "findDependencies", "(LPatchStore$Repository;)Z"⟩, 9) := ⟨⟨by decide +kernel, by decide +kernel⟩, List.mem_of_getElem? (i := 269) (by decide +kernel), List.mem_of_getElem? (i := 812) (by decide +kernel), List.mem_of_getElem? (i := 813) (by decide +kernel)⟩
theorem lw_p15 : lw_okq (⟨"PatchStore$Intake", "findKnown", "()I"⟩, 9) := ⟨⟨by decide +kernel, by decide +kernel⟩, List.mem_of_getElem? (i := 269) (by decide +kernel), List.mem_of_getElem? (i := 830) (by decide +kernel), List.mem_of_getElem? (i := 831) (by decide +kernel)⟩
def lw_privs_1 : List (MethodName × Nat) := [(⟨"java/lang/Throwable", "fillInStackTrace", "(I)Ljava/lang/Throwable;"⟩, 6), (⟨"PatchStore", "putOnTape", "(I)V"⟩, 11), (⟨"PatchStore", "repositoryAt", "(I)LPatchStore$Repository;"⟩, 11), (⟨"PatchStore", "tapeIsName", "()Z"⟩, 11), (⟨"PatchStore$Maker", "put", "(I)V"⟩, 5), (⟨"PatchStore$Maker", "putName", "([BI)V"⟩, 5), (⟨"PatchStore$Form", "isRising", "(II)Z"⟩, 1), (⟨"PatchStore$Form", "changesEnd", "(II)I"⟩, 1), (⟨"PatchStore$Form", "changeEnd", "(II)I"⟩, 1), (⟨"PatchStore$Form", "nameEnd", "(III)I"⟩, 1), (⟨"PatchStore$Form", "callEnd", "(II)I"⟩, 1), (⟨"PatchStore$Form", "insertEnd", "(II)I"⟩, 1), (⟨"PatchStore$Form", "placeEnd", "(II)I"⟩, 1), (⟨"PatchStore$Form", "lineEnd", "(II)I"⟩, 1), (⟨"PatchStore$Intake", "findDependencies", "(LPatchStore$Repository;)Z"⟩, 9), (⟨"PatchStore$Intake", "findKnown", "()I"⟩, 9)]
theorem lw_r1 : ∀ q ∈ lw_privs_1, lw_okq q := List.forall_mem_cons.mpr ⟨lw_p0, List.forall_mem_cons.mpr ⟨lw_p1, List.forall_mem_cons.mpr ⟨lw_p2, List.forall_mem_cons.mpr ⟨lw_p3, List.forall_mem_cons.mpr ⟨lw_p4, List.forall_mem_cons.mpr ⟨lw_p5, List.forall_mem_cons.mpr ⟨lw_p6, List.forall_mem_cons.mpr ⟨lw_p7, List.forall_mem_cons.mpr ⟨lw_p8, List.forall_mem_cons.mpr ⟨lw_p9, List.forall_mem_cons.mpr ⟨lw_p10, List.forall_mem_cons.mpr ⟨lw_p11, List.forall_mem_cons.mpr ⟨lw_p12, List.forall_mem_cons.mpr ⟨lw_p13, List.forall_mem_cons.mpr ⟨lw_p14, List.forall_mem_cons.mpr ⟨lw_p15, fun _ h => absurd h List.not_mem_nil⟩⟩⟩⟩⟩⟩⟩⟩⟩⟩⟩⟩⟩⟩⟩⟩
theorem lw_p16 : lw_okq (⟨"PatchStore$Sha256", "put", "(B)V"⟩, 5) := ⟨⟨by decide +kernel, by decide +kernel⟩, List.mem_of_getElem? (i := 49) (by decide +kernel), List.mem_of_getElem? (i := 844) (by decide +kernel), List.mem_of_getElem? (i := 845) (by decide +kernel)⟩
theorem lw_p17 : lw_okq (⟨"PatchStore$Sha256", "spread", "()V"⟩, 5) := ⟨⟨by decide +kernel, by decide +kernel⟩, List.mem_of_getElem? (i := 49) (by decide +kernel), List.mem_of_getElem? (i := 848) (by decide +kernel), List.mem_of_getElem? (i := 849) (by decide +kernel)⟩
theorem lw_p18 : lw_okq (⟨"PatchStore$Sha256", "mix", "()V"⟩, 5) := ⟨⟨by decide +kernel, by decide +kernel⟩, List.mem_of_getElem? (i := 49) (by decide +kernel), List.mem_of_getElem? (i := 852) (by decide +kernel), List.mem_of_getElem? (i := 853) (by decide +kernel)⟩
theorem lw_p19 : lw_okq (⟨"PatchStore$Intake", "resolveAll", "()Z"⟩, 9) := ⟨⟨by decide +kernel, by decide +kernel⟩, List.mem_of_getElem? (i := 269) (by decide +kernel), List.mem_of_getElem? (i := 868) (by decide +kernel), List.mem_of_getElem? (i := 869) (by decide +kernel)⟩
theorem lw_p20 : lw_okq (⟨"PatchStore$Intake", "resolve", "(II)I"⟩, 9) := ⟨⟨by decide +kernel, by decide +kernel⟩, List.mem_of_getElem? (i := 269) (by decide +kernel), List.mem_of_getElem? (i := 873) (by decide +kernel), List.mem_of_getElem? (i := 874) (by decide +kernel)⟩
theorem lw_p21 : lw_okq (⟨"PatchStore$Intake", "resolveCall", "(II)I"⟩, 9) := ⟨⟨by decide +kernel, by decide +kernel⟩, List.mem_of_getElem? (i := 269) (by decide +kernel), List.mem_of_getElem? (i := 877) (by decide +kernel), List.mem_of_getElem? (i := 878) (by decide +kernel)⟩
theorem lw_p22 : lw_okq (⟨"PatchStore$Intake", "fileNamed", "(II)I"⟩, 9) := ⟨⟨by decide +kernel, by decide +kernel⟩, List.mem_of_getElem? (i := 269) (by decide +kernel), List.mem_of_getElem? (i := 881) (by decide +kernel), List.mem_of_getElem? (i := 882) (by decide +kernel)⟩
theorem lw_p23 : lw_okq (⟨"PatchStore$Intake", "changeNamed", "(II)I"⟩, 9) := ⟨⟨by decide +kernel, by decide +kernel⟩, List.mem_of_getElem? (i := 269) (by decide +kernel), List.mem_of_getElem? (i := 885) (by decide +kernel), List.mem_of_getElem? (i := 886) (by decide +kernel)⟩
theorem lw_p24 : lw_okq (⟨"PatchStore$Intake", "isAmong", "(III)Z"⟩, 9) := ⟨⟨by decide +kernel, by decide +kernel⟩, List.mem_of_getElem? (i := 269) (by decide +kernel), List.mem_of_getElem? (i := 903) (by decide +kernel), List.mem_of_getElem? (i := 904) (by decide +kernel)⟩
theorem lw_p25 : lw_okq (⟨"PatchStore$Intake", "resolveInsert", "(II)I"⟩, 9) := ⟨⟨by decide +kernel, by decide +kernel⟩, List.mem_of_getElem? (i := 269) (by decide +kernel), List.mem_of_getElem? (i := 907) (by decide +kernel), List.mem_of_getElem? (i := 908) (by decide +kernel)⟩
theorem lw_p26 : lw_okq (⟨"PatchStore$Intake", "fileOfLine", "(II)I"⟩, 9) := ⟨⟨by decide +kernel, by decide +kernel⟩, List.mem_of_getElem? (i := 269) (by decide +kernel), List.mem_of_getElem? (i := 915) (by decide +kernel), List.mem_of_getElem? (i := 916) (by decide +kernel)⟩
theorem lw_p27 : lw_okq (⟨"PatchStore$Intake", "resolveOrder", "(II)I"⟩, 9) := ⟨⟨by decide +kernel, by decide +kernel⟩, List.mem_of_getElem? (i := 269) (by decide +kernel), List.mem_of_getElem? (i := 924) (by decide +kernel), List.mem_of_getElem? (i := 925) (by decide +kernel)⟩
theorem lw_p28 : lw_okq (⟨"PatchStore$Intake", "allNamed", "()Z"⟩, 9) := ⟨⟨by decide +kernel, by decide +kernel⟩, List.mem_of_getElem? (i := 269) (by decide +kernel), List.mem_of_getElem? (i := 938) (by decide +kernel), List.mem_of_getElem? (i := 939) (by decide +kernel)⟩
theorem lw_p29 : lw_okq (⟨"PatchStore$Intake", "isFull", "()Z"⟩, 9) := ⟨⟨by decide +kernel, by decide +kernel⟩, List.mem_of_getElem? (i := 269) (by decide +kernel), List.mem_of_getElem? (i := 942) (by decide +kernel), List.mem_of_getElem? (i := 943) (by decide +kernel)⟩
theorem lw_p30 : lw_okq (⟨"PatchStore$Intake", "isAnyFileFull", "()Z"⟩, 9) := ⟨⟨by decide +kernel, by decide +kernel⟩, List.mem_of_getElem? (i := 269) (by decide +kernel), List.mem_of_getElem? (i := 947) (by decide +kernel), List.mem_of_getElem? (i := 948) (by decide +kernel)⟩
theorem lw_p31 : lw_okq (⟨"PatchStore$Intake", "keepContents", "()V"⟩, 9) := ⟨⟨by decide +kernel, by decide +kernel⟩, List.mem_of_getElem? (i := 269) (by decide +kernel), List.mem_of_getElem? (i := 954) (by decide +kernel), List.mem_of_getElem? (i := 955) (by decide +kernel)⟩
def lw_privs_2 : List (MethodName × Nat) := [(⟨"PatchStore$Sha256", "put", "(B)V"⟩, 5), (⟨"PatchStore$Sha256", "spread", "()V"⟩, 5), (⟨"PatchStore$Sha256", "mix", "()V"⟩, 5), (⟨"PatchStore$Intake", "resolveAll", "()Z"⟩, 9), (⟨"PatchStore$Intake", "resolve", "(II)I"⟩, 9), (⟨"PatchStore$Intake", "resolveCall", "(II)I"⟩, 9), (⟨"PatchStore$Intake", "fileNamed", "(II)I"⟩, 9), (⟨"PatchStore$Intake", "changeNamed", "(II)I"⟩, 9), (⟨"PatchStore$Intake", "isAmong", "(III)Z"⟩, 9), (⟨"PatchStore$Intake", "resolveInsert", "(II)I"⟩, 9), (⟨"PatchStore$Intake", "fileOfLine", "(II)I"⟩, 9), (⟨"PatchStore$Intake", "resolveOrder", "(II)I"⟩, 9), (⟨"PatchStore$Intake", "allNamed", "()Z"⟩, 9), (⟨"PatchStore$Intake", "isFull", "()Z"⟩, 9), (⟨"PatchStore$Intake", "isAnyFileFull", "()Z"⟩, 9), (⟨"PatchStore$Intake", "keepContents", "()V"⟩, 9)]
theorem lw_r2 : ∀ q ∈ lw_privs_2, lw_okq q := List.forall_mem_cons.mpr ⟨lw_p16, List.forall_mem_cons.mpr ⟨lw_p17, List.forall_mem_cons.mpr ⟨lw_p18, List.forall_mem_cons.mpr ⟨lw_p19, List.forall_mem_cons.mpr ⟨lw_p20, List.forall_mem_cons.mpr ⟨lw_p21, List.forall_mem_cons.mpr ⟨lw_p22, List.forall_mem_cons.mpr ⟨lw_p23, List.forall_mem_cons.mpr ⟨lw_p24, List.forall_mem_cons.mpr ⟨lw_p25, List.forall_mem_cons.mpr ⟨lw_p26, List.forall_mem_cons.mpr ⟨lw_p27, List.forall_mem_cons.mpr ⟨lw_p28, List.forall_mem_cons.mpr ⟨lw_p29, List.forall_mem_cons.mpr ⟨lw_p30, List.forall_mem_cons.mpr ⟨lw_p31, fun _ h => absurd h List.not_mem_nil⟩⟩⟩⟩⟩⟩⟩⟩⟩⟩⟩⟩⟩⟩⟩⟩
theorem lw_p32 : lw_okq (⟨"PatchStore$Intake", "keepLines", "(I)V"⟩, 9) := ⟨⟨by decide +kernel, by decide +kernel⟩, List.mem_of_getElem? (i := 269) (by decide +kernel), List.mem_of_getElem? (i := 958) (by decide +kernel), List.mem_of_getElem? (i := 959) (by decide +kernel)⟩
theorem lw_p33 : lw_okq (⟨"PatchStore", "takeSettled", "(LPatchStore$Repository;I)I"⟩, 11) := ⟨⟨by decide +kernel, by decide +kernel⟩, List.mem_of_getElem? (i := 38) (by decide +kernel), List.mem_of_getElem? (i := 976) (by decide +kernel), List.mem_of_getElem? (i := 977) (by decide +kernel)⟩
theorem lw_p34 : lw_okq (⟨"PatchStore", "fileAt", "(LPatchStore$Repository;I)I"⟩, 11) := ⟨⟨by decide +kernel, by decide +kernel⟩, List.mem_of_getElem? (i := 38) (by decide +kernel), List.mem_of_getElem? (i := 992) (by decide +kernel), List.mem_of_getElem? (i := 993) (by decide +kernel)⟩
theorem lw_p35 : lw_okq (⟨"PatchStore$View", "markOver", "(I)V"⟩, 14) := ⟨⟨by decide +kernel, by decide +kernel⟩, List.mem_of_getElem? (i := 313) (by decide +kernel), List.mem_of_getElem? (i := 1001) (by decide +kernel), List.mem_of_getElem? (i := 1002) (by decide +kernel)⟩
theorem lw_p36 : lw_okq (⟨"PatchStore$View", "gather", "(I)V"⟩, 14) := ⟨⟨by decide +kernel, by decide +kernel⟩, List.mem_of_getElem? (i := 313) (by decide +kernel), List.mem_of_getElem? (i := 1008) (by decide +kernel), List.mem_of_getElem? (i := 1009) (by decide +kernel)⟩
theorem lw_p37 : lw_okq (⟨"PatchStore$View", "leaveOutNameless", "()V"⟩, 14) := ⟨⟨by decide +kernel, by decide +kernel⟩, List.mem_of_getElem? (i := 313) (by decide +kernel), List.mem_of_getElem? (i := 1013) (by decide +kernel), List.mem_of_getElem? (i := 1014) (by decide +kernel)⟩
theorem lw_p38 : lw_okq (⟨"PatchStore$Maker", "writeCall", "(LPatchStore$View;I[BI)V"⟩, 5) := ⟨⟨by decide +kernel, by decide +kernel⟩, List.mem_of_getElem? (i := 441) (by decide +kernel), List.mem_of_getElem? (i := 1021) (by decide +kernel), List.mem_of_getElem? (i := 1022) (by decide +kernel)⟩
theorem lw_p39 : lw_okq (⟨"PatchStore$Text", "gatherLines", "()V"⟩, 19) := ⟨⟨by decide +kernel, by decide +kernel⟩, List.mem_of_getElem? (i := 369) (by decide +kernel), List.mem_of_getElem? (i := 1049) (by decide +kernel), List.mem_of_getElem? (i := 1050) (by decide +kernel)⟩
theorem lw_p40 : lw_okq (⟨"PatchStore$Text", "gatherFrom", "(I)V"⟩, 19) := ⟨⟨by decide +kernel, by decide +kernel⟩, List.mem_of_getElem? (i := 369) (by decide +kernel), List.mem_of_getElem? (i := 1054) (by decide +kernel), List.mem_of_getElem? (i := 1055) (by decide +kernel)⟩
theorem lw_p41 : lw_okq (⟨"PatchStore$Text", "clearRows", "()V"⟩, 19) := ⟨⟨by decide +kernel, by decide +kernel⟩, List.mem_of_getElem? (i := 369) (by decide +kernel), List.mem_of_getElem? (i := 1061) (by decide +kernel), List.mem_of_getElem? (i := 1062) (by decide +kernel)⟩
theorem lw_p42 : lw_okq (⟨"PatchStore$Text", "layInsertEdges", "()V"⟩, 19) := ⟨⟨by decide +kernel, by decide +kernel⟩, List.mem_of_getElem? (i := 369) (by decide +kernel), List.mem_of_getElem? (i := 1065) (by decide +kernel), List.mem_of_getElem? (i := 1066) (by decide +kernel)⟩
theorem lw_p43 : lw_okq (⟨"PatchStore$Text", "layEdge", "(II)V"⟩, 19) := ⟨⟨by decide +kernel, by decide +kernel⟩, List.mem_of_getElem? (i := 369) (by decide +kernel), List.mem_of_getElem? (i := 1069) (by decide +kernel), List.mem_of_getElem? (i := 1070) (by decide +kernel)⟩
theorem lw_p44 : lw_okq (⟨"PatchStore$Text", "isLastOfInsert", "(I)Z"⟩, 19) := ⟨⟨by decide +kernel, by decide +kernel⟩, List.mem_of_getElem? (i := 369) (by decide +kernel), List.mem_of_getElem? (i := 1073) (by decide +kernel), List.mem_of_getElem? (i := 1074) (by decide +kernel)⟩
theorem lw_p45 : lw_okq (⟨"PatchStore$Text", "layOrdersAndDeletes", "(I)V"⟩, 19) := ⟨⟨by decide +kernel, by decide +kernel⟩, List.mem_of_getElem? (i := 369) (by decide +kernel), List.mem_of_getElem? (i := 1077) (by decide +kernel), List.mem_of_getElem? (i := 1078) (by decide +kernel)⟩
theorem lw_p46 : lw_okq (⟨"PatchStore$Text", "closeReach", "()V"⟩, 19) := ⟨⟨by decide +kernel, by decide +kernel⟩, List.mem_of_getElem? (i := 369) (by decide +kernel), List.mem_of_getElem? (i := 1082) (by decide +kernel), List.mem_of_getElem? (i := 1083) (by decide +kernel)⟩
theorem lw_p47 : lw_okq (⟨"PatchStore$Text", "countDeadAndStranded", "()V"⟩, 19) := ⟨⟨by decide +kernel, by decide +kernel⟩, List.mem_of_getElem? (i := 369) (by decide +kernel), List.mem_of_getElem? (i := 1086) (by decide +kernel), List.mem_of_getElem? (i := 1087) (by decide +kernel)⟩
def lw_privs_3 : List (MethodName × Nat) := [(⟨"PatchStore$Intake", "keepLines", "(I)V"⟩, 9), (⟨"PatchStore", "takeSettled", "(LPatchStore$Repository;I)I"⟩, 11), (⟨"PatchStore", "fileAt", "(LPatchStore$Repository;I)I"⟩, 11), (⟨"PatchStore$View", "markOver", "(I)V"⟩, 14), (⟨"PatchStore$View", "gather", "(I)V"⟩, 14), (⟨"PatchStore$View", "leaveOutNameless", "()V"⟩, 14), (⟨"PatchStore$Maker", "writeCall", "(LPatchStore$View;I[BI)V"⟩, 5), (⟨"PatchStore$Text", "gatherLines", "()V"⟩, 19), (⟨"PatchStore$Text", "gatherFrom", "(I)V"⟩, 19), (⟨"PatchStore$Text", "clearRows", "()V"⟩, 19), (⟨"PatchStore$Text", "layInsertEdges", "()V"⟩, 19), (⟨"PatchStore$Text", "layEdge", "(II)V"⟩, 19), (⟨"PatchStore$Text", "isLastOfInsert", "(I)Z"⟩, 19), (⟨"PatchStore$Text", "layOrdersAndDeletes", "(I)V"⟩, 19), (⟨"PatchStore$Text", "closeReach", "()V"⟩, 19), (⟨"PatchStore$Text", "countDeadAndStranded", "()V"⟩, 19)]
theorem lw_r3 : ∀ q ∈ lw_privs_3, lw_okq q := List.forall_mem_cons.mpr ⟨lw_p32, List.forall_mem_cons.mpr ⟨lw_p33, List.forall_mem_cons.mpr ⟨lw_p34, List.forall_mem_cons.mpr ⟨lw_p35, List.forall_mem_cons.mpr ⟨lw_p36, List.forall_mem_cons.mpr ⟨lw_p37, List.forall_mem_cons.mpr ⟨lw_p38, List.forall_mem_cons.mpr ⟨lw_p39, List.forall_mem_cons.mpr ⟨lw_p40, List.forall_mem_cons.mpr ⟨lw_p41, List.forall_mem_cons.mpr ⟨lw_p42, List.forall_mem_cons.mpr ⟨lw_p43, List.forall_mem_cons.mpr ⟨lw_p44, List.forall_mem_cons.mpr ⟨lw_p45, List.forall_mem_cons.mpr ⟨lw_p46, List.forall_mem_cons.mpr ⟨lw_p47, fun _ h => absurd h List.not_mem_nil⟩⟩⟩⟩⟩⟩⟩⟩⟩⟩⟩⟩⟩⟩⟩⟩
theorem lw_p48 : lw_okq (⟨"PatchStore$Text", "isLost", "(II)Z"⟩, 19) := ⟨⟨by decide +kernel, by decide +kernel⟩, List.mem_of_getElem? (i := 369) (by decide +kernel), List.mem_of_getElem? (i := 1090) (by decide +kernel), List.mem_of_getElem? (i := 1091) (by decide +kernel)⟩
theorem lw_p49 : lw_okq (⟨"PatchStore$Text", "takeLines", "()V"⟩, 19) := ⟨⟨by decide +kernel, by decide +kernel⟩, List.mem_of_getElem? (i := 369) (by decide +kernel), List.mem_of_getElem? (i := 1095) (by decide +kernel), List.mem_of_getElem? (i := 1096) (by decide +kernel)⟩
theorem lw_p50 : lw_okq (⟨"PatchStore$Text", "countWaits", "(I)I"⟩, 19) := ⟨⟨by decide +kernel, by decide +kernel⟩, List.mem_of_getElem? (i := 369) (by decide +kernel), List.mem_of_getElem? (i := 1099) (by decide +kernel), List.mem_of_getElem? (i := 1100) (by decide +kernel)⟩
theorem lw_p51 : lw_okq (⟨"PatchStore$Text", "reaches", "(II)Z"⟩, 19) := ⟨⟨by decide +kernel, by decide +kernel⟩, List.mem_of_getElem? (i := 369) (by decide +kernel), List.mem_of_getElem? (i := 1103) (by decide +kernel), List.mem_of_getElem? (i := 1104) (by decide +kernel)⟩
theorem lw_p52 : lw_okq (⟨"PatchStore$Text", "leastFree", "()I"⟩, 19) := ⟨⟨by decide +kernel, by decide +kernel⟩, List.mem_of_getElem? (i := 369) (by decide +kernel), List.mem_of_getElem? (i := 1107) (by decide +kernel), List.mem_of_getElem? (i := 1108) (by decide +kernel)⟩
theorem lw_p53 : lw_okq (⟨"PatchStore$Text", "takeSlot", "(I)V"⟩, 19) := ⟨⟨by decide +kernel, by decide +kernel⟩, List.mem_of_getElem? (i := 369) (by decide +kernel), List.mem_of_getElem? (i := 1111) (by decide +kernel), List.mem_of_getElem? (i := 1112) (by decide +kernel)⟩
theorem lw_p54 : lw_okq (⟨"PatchStore$Recording", "sortLines", "()V"⟩, 17) := ⟨⟨by decide +kernel, by decide +kernel⟩, List.mem_of_getElem? (i := 463) (by decide +kernel), List.mem_of_getElem? (i := 1134) (by decide +kernel), List.mem_of_getElem? (i := 1135) (by decide +kernel)⟩
theorem lw_p55 : lw_okq (⟨"PatchStore$Recording", "sumOf", "(I)I"⟩, 17) := ⟨⟨by decide +kernel, by decide +kernel⟩, List.mem_of_getElem? (i := 463) (by decide +kernel), List.mem_of_getElem? (i := 1138) (by decide +kernel), List.mem_of_getElem? (i := 1139) (by decide +kernel)⟩
theorem lw_p56 : lw_okq (⟨"PatchStore$Recording", "sourceOf", "(I)[B"⟩, 17) := ⟨⟨by decide +kernel, by decide +kernel⟩, List.mem_of_getElem? (i := 463) (by decide +kernel), List.mem_of_getElem? (i := 1142) (by decide +kernel), List.mem_of_getElem? (i := 1143) (by decide +kernel)⟩
theorem lw_p57 : lw_okq (⟨"PatchStore$Recording", "atOf", "(I)I"⟩, 17) := ⟨⟨by decide +kernel, by decide +kernel⟩, List.mem_of_getElem? (i := 463) (by decide +kernel), List.mem_of_getElem? (i := 1146) (by decide +kernel), List.mem_of_getElem? (i := 1147) (by decide +kernel)⟩
theorem lw_p58 : lw_okq (⟨"PatchStore$Recording", "lengthOf", "(I)I"⟩, 17) := ⟨⟨by decide +kernel, by decide +kernel⟩, List.mem_of_getElem? (i := 463) (by decide +kernel), List.mem_of_getElem? (i := 1150) (by decide +kernel), List.mem_of_getElem? (i := 1151) (by decide +kernel)⟩
theorem lw_p59 : lw_okq (⟨"PatchStore$Recording", "isSame", "(II)Z"⟩, 17) := ⟨⟨by decide +kernel, by decide +kernel⟩, List.mem_of_getElem? (i := 463) (by decide +kernel), List.mem_of_getElem? (i := 1154) (by decide +kernel), List.mem_of_getElem? (i := 1155) (by decide +kernel)⟩
theorem lw_p60 : lw_okq (⟨"PatchStore$Recording", "measureCommon", "()V"⟩, 17) := ⟨⟨by decide +kernel, by decide +kernel⟩, List.mem_of_getElem? (i := 463) (by decide +kernel), List.mem_of_getElem? (i := 1158) (by decide +kernel), List.mem_of_getElem? (i := 1159) (by decide +kernel)⟩
theorem lw_p61 : lw_okq (⟨"PatchStore$Recording", "walk", "()V"⟩, 17) := ⟨⟨by decide +kernel, by decide +kernel⟩, List.mem_of_getElem? (i := 463) (by decide +kernel), List.mem_of_getElem? (i := 1165) (by decide +kernel), List.mem_of_getElem? (i := 1166) (by decide +kernel)⟩
theorem lw_p62 : lw_okq (⟨"PatchStore$Recording", "writeChanges", "()V"⟩, 17) := ⟨⟨by decide +kernel, by decide +kernel⟩, List.mem_of_getElem? (i := 463) (by decide +kernel), List.mem_of_getElem? (i := 1170) (by decide +kernel), List.mem_of_getElem? (i := 1171) (by decide +kernel)⟩
theorem lw_p63 : lw_okq (⟨"PatchStore$Recording", "writeInsert", "(III)V"⟩, 17) := ⟨⟨by decide +kernel, by decide +kernel⟩, List.mem_of_getElem? (i := 463) (by decide +kernel), List.mem_of_getElem? (i := 1179) (by decide +kernel), List.mem_of_getElem? (i := 1180) (by decide +kernel)⟩
def lw_privs_4 : List (MethodName × Nat) := [(⟨"PatchStore$Text", "isLost", "(II)Z"⟩, 19), (⟨"PatchStore$Text", "takeLines", "()V"⟩, 19), (⟨"PatchStore$Text", "countWaits", "(I)I"⟩, 19), (⟨"PatchStore$Text", "reaches", "(II)Z"⟩, 19), (⟨"PatchStore$Text", "leastFree", "()I"⟩, 19), (⟨"PatchStore$Text", "takeSlot", "(I)V"⟩, 19), (⟨"PatchStore$Recording", "sortLines", "()V"⟩, 17), (⟨"PatchStore$Recording", "sumOf", "(I)I"⟩, 17), (⟨"PatchStore$Recording", "sourceOf", "(I)[B"⟩, 17), (⟨"PatchStore$Recording", "atOf", "(I)I"⟩, 17), (⟨"PatchStore$Recording", "lengthOf", "(I)I"⟩, 17), (⟨"PatchStore$Recording", "isSame", "(II)Z"⟩, 17), (⟨"PatchStore$Recording", "measureCommon", "()V"⟩, 17), (⟨"PatchStore$Recording", "walk", "()V"⟩, 17), (⟨"PatchStore$Recording", "writeChanges", "()V"⟩, 17), (⟨"PatchStore$Recording", "writeInsert", "(III)V"⟩, 17)]
theorem lw_r4 : ∀ q ∈ lw_privs_4, lw_okq q := List.forall_mem_cons.mpr ⟨lw_p48, List.forall_mem_cons.mpr ⟨lw_p49, List.forall_mem_cons.mpr ⟨lw_p50, List.forall_mem_cons.mpr ⟨lw_p51, List.forall_mem_cons.mpr ⟨lw_p52, List.forall_mem_cons.mpr ⟨lw_p53, List.forall_mem_cons.mpr ⟨lw_p54, List.forall_mem_cons.mpr ⟨lw_p55, List.forall_mem_cons.mpr ⟨lw_p56, List.forall_mem_cons.mpr ⟨lw_p57, List.forall_mem_cons.mpr ⟨lw_p58, List.forall_mem_cons.mpr ⟨lw_p59, List.forall_mem_cons.mpr ⟨lw_p60, List.forall_mem_cons.mpr ⟨lw_p61, List.forall_mem_cons.mpr ⟨lw_p62, List.forall_mem_cons.mpr ⟨lw_p63, fun _ h => absurd h List.not_mem_nil⟩⟩⟩⟩⟩⟩⟩⟩⟩⟩⟩⟩⟩⟩⟩⟩
theorem lw_p64 : lw_okq (⟨"PatchStore", "checkPatch", "(I)V"⟩, 11) := ⟨⟨by decide +kernel, by decide +kernel⟩, List.mem_of_getElem? (i := 38) (by decide +kernel), List.mem_of_getElem? (i := 1219) (by decide +kernel), List.mem_of_getElem? (i := 1220) (by decide +kernel)⟩
theorem lw_p65 : lw_okq (⟨"PatchStore", "checkHashIndex", "(I)V"⟩, 11) := ⟨⟨by decide +kernel, by decide +kernel⟩, List.mem_of_getElem? (i := 38) (by decide +kernel), List.mem_of_getElem? (i := 1277) (by decide +kernel), List.mem_of_getElem? (i := 1278) (by decide +kernel)⟩
theorem lw_p66 : lw_okq (⟨"PatchStore$View", "meet", "(I)V"⟩, 14) := ⟨⟨by decide +kernel, by decide +kernel⟩, List.mem_of_getElem? (i := 313) (by decide +kernel), List.mem_of_getElem? (i := 1325) (by decide +kernel), List.mem_of_getElem? (i := 1326) (by decide +kernel)⟩
theorem lw_p67 : lw_okq (⟨"PatchStore$View", "bucketOf", "(I)I"⟩, 14) := ⟨⟨by decide +kernel, by decide +kernel⟩, List.mem_of_getElem? (i := 313) (by decide +kernel), List.mem_of_getElem? (i := 1329) (by decide +kernel), List.mem_of_getElem? (i := 1330) (by decide +kernel)⟩
theorem lw_p68 : lw_okq (⟨"PatchStore$View", "isSameName", "(II)Z"⟩, 14) := ⟨⟨by decide +kernel, by decide +kernel⟩, List.mem_of_getElem? (i := 313) (by decide +kernel), List.mem_of_getElem? (i := 1334) (by decide +kernel), List.mem_of_getElem? (i := 1335) (by decide +kernel)⟩
theorem lw_p69 : lw_okq (⟨"PatchStoreModel", "refuse", "(IZ)Z"⟩, 83) := ⟨⟨by decide +kernel, by decide +kernel⟩, List.mem_of_getElem? (i := 1368) (by decide +kernel), List.mem_of_getElem? (i := 1678) (by decide +kernel), List.mem_of_getElem? (i := 1679) (by decide +kernel)⟩
theorem lw_p70 : lw_okq (⟨"PatchStoreModel", "none", "(I)Z"⟩, 83) := ⟨⟨by decide +kernel, by decide +kernel⟩, List.mem_of_getElem? (i := 1368) (by decide +kernel), List.mem_of_getElem? (i := 1690) (by decide +kernel), List.mem_of_getElem? (i := 1691) (by decide +kernel)⟩
theorem lw_p71 : lw_okq (⟨"PatchStoreModel", "beginPatch", "()V"⟩, 83) := ⟨⟨by decide +kernel, by decide +kernel⟩, List.mem_of_getElem? (i := 1368) (by decide +kernel), List.mem_of_getElem? (i := 1694) (by decide +kernel), List.mem_of_getElem? (i := 1695) (by decide +kernel)⟩
theorem lw_p72 : lw_okq (⟨"PatchStoreModel", "sayHead", "(I)V"⟩, 83) := ⟨⟨by decide +kernel, by decide +kernel⟩, List.mem_of_getElem? (i := 1368) (by decide +kernel), List.mem_of_getElem? (i := 1698) (by decide +kernel), List.mem_of_getElem? (i := 1699) (by decide +kernel)⟩
theorem lw_p73 : lw_okq (⟨"PatchStoreModel", "say", "(II)V"⟩, 83) := ⟨⟨by decide +kernel, by decide +kernel⟩, List.mem_of_getElem? (i := 1368) (by decide +kernel), List.mem_of_getElem? (i := 1702) (by decide +kernel), List.mem_of_getElem? (i := 1703) (by decide +kernel)⟩
theorem lw_p74 : lw_okq (⟨"PatchStoreModel", "sayTape", "()V"⟩, 83) := ⟨⟨by decide +kernel, by decide +kernel⟩, List.mem_of_getElem? (i := 1368) (by decide +kernel), List.mem_of_getElem? (i := 1706) (by decide +kernel), List.mem_of_getElem? (i := 1707) (by decide +kernel)⟩
theorem lw_p75 : lw_okq (⟨"PatchStoreModel", "finish", "(II)I"⟩, 83) := ⟨⟨by decide +kernel, by decide +kernel⟩, List.mem_of_getElem? (i := 1368) (by decide +kernel), List.mem_of_getElem? (i := 1710) (by decide +kernel), List.mem_of_getElem? (i := 1711) (by decide +kernel)⟩
theorem lw_p76 : lw_okq (⟨"PatchStoreModel", "take", "([BII)I"⟩, 83) := ⟨⟨by decide +kernel, by decide +kernel⟩, List.mem_of_getElem? (i := 1368) (by decide +kernel), List.mem_of_getElem? (i := 1714) (by decide +kernel), List.mem_of_getElem? (i := 1715) (by decide +kernel)⟩
theorem lw_p77 : lw_okq (⟨"PatchStoreModel", "formed", "([BI)Z"⟩, 83) := ⟨⟨by decide +kernel, by decide +kernel⟩, List.mem_of_getElem? (i := 1368) (by decide +kernel), List.mem_of_getElem? (i := 1718) (by decide +kernel), List.mem_of_getElem? (i := 1719) (by decide +kernel)⟩
theorem lw_p78 : lw_okq (⟨"PatchStoreModel", "next", "(I)I"⟩, 83) := ⟨⟨by decide +kernel, by decide +kernel⟩, List.mem_of_getElem? (i := 1368) (by decide +kernel), List.mem_of_getElem? (i := 1722) (by decide +kernel), List.mem_of_getElem? (i := 1723) (by decide +kernel)⟩
theorem lw_p79 : lw_okq (⟨"PatchStoreModel", "skip", "(I)V"⟩, 83) := ⟨⟨by decide +kernel, by decide +kernel⟩, List.mem_of_getElem? (i := 1368) (by decide +kernel), List.mem_of_getElem? (i := 1726) (by decide +kernel), List.mem_of_getElem? (i := 1727) (by decide +kernel)⟩
def lw_privs_5 : List (MethodName × Nat) := [(⟨"PatchStore", "checkPatch", "(I)V"⟩, 11), (⟨"PatchStore", "checkHashIndex", "(I)V"⟩, 11), (⟨"PatchStore$View", "meet", "(I)V"⟩, 14), (⟨"PatchStore$View", "bucketOf", "(I)I"⟩, 14), (⟨"PatchStore$View", "isSameName", "(II)Z"⟩, 14), (⟨"PatchStoreModel", "refuse", "(IZ)Z"⟩, 83), (⟨"PatchStoreModel", "none", "(I)Z"⟩, 83), (⟨"PatchStoreModel", "beginPatch", "()V"⟩, 83), (⟨"PatchStoreModel", "sayHead", "(I)V"⟩, 83), (⟨"PatchStoreModel", "say", "(II)V"⟩, 83), (⟨"PatchStoreModel", "sayTape", "()V"⟩, 83), (⟨"PatchStoreModel", "finish", "(II)I"⟩, 83), (⟨"PatchStoreModel", "take", "([BII)I"⟩, 83), (⟨"PatchStoreModel", "formed", "([BI)Z"⟩, 83), (⟨"PatchStoreModel", "next", "(I)I"⟩, 83), (⟨"PatchStoreModel", "skip", "(I)V"⟩, 83)]
theorem lw_r5 : ∀ q ∈ lw_privs_5, lw_okq q := List.forall_mem_cons.mpr ⟨lw_p64, List.forall_mem_cons.mpr ⟨lw_p65, List.forall_mem_cons.mpr ⟨lw_p66, List.forall_mem_cons.mpr ⟨lw_p67, List.forall_mem_cons.mpr ⟨lw_p68, List.forall_mem_cons.mpr ⟨lw_p69, List.forall_mem_cons.mpr ⟨lw_p70, List.forall_mem_cons.mpr ⟨lw_p71, List.forall_mem_cons.mpr ⟨lw_p72, List.forall_mem_cons.mpr ⟨lw_p73, List.forall_mem_cons.mpr ⟨lw_p74, List.forall_mem_cons.mpr ⟨lw_p75, List.forall_mem_cons.mpr ⟨lw_p76, List.forall_mem_cons.mpr ⟨lw_p77, List.forall_mem_cons.mpr ⟨lw_p78, List.forall_mem_cons.mpr ⟨lw_p79, fun _ h => absurd h List.not_mem_nil⟩⟩⟩⟩⟩⟩⟩⟩⟩⟩⟩⟩⟩⟩⟩⟩
theorem lw_p80 : lw_okq (⟨"PatchStoreModel", "changeForm", "()V"⟩, 83) := ⟨⟨by decide +kernel, by decide +kernel⟩, List.mem_of_getElem? (i := 1368) (by decide +kernel), List.mem_of_getElem? (i := 1733) (by decide +kernel), List.mem_of_getElem? (i := 1734) (by decide +kernel)⟩
theorem lw_p81 : lw_okq (⟨"PatchStoreModel", "name", "(I)V"⟩, 83) := ⟨⟨by decide +kernel, by decide +kernel⟩, List.mem_of_getElem? (i := 1368) (by decide +kernel), List.mem_of_getElem? (i := 1737) (by decide +kernel), List.mem_of_getElem? (i := 1738) (by decide +kernel)⟩
theorem lw_p82 : lw_okq (⟨"PatchStoreModel", "side", "()V"⟩, 83) := ⟨⟨by decide +kernel, by decide +kernel⟩, List.mem_of_getElem? (i := 1368) (by decide +kernel), List.mem_of_getElem? (i := 1741) (by decide +kernel), List.mem_of_getElem? (i := 1742) (by decide +kernel)⟩
theorem lw_p83 : lw_okq (⟨"PatchStoreModel", "lineForm", "()V"⟩, 83) := ⟨⟨by decide +kernel, by decide +kernel⟩, List.mem_of_getElem? (i := 1368) (by decide +kernel), List.mem_of_getElem? (i := 1745) (by decide +kernel), List.mem_of_getElem? (i := 1746) (by decide +kernel)⟩
theorem lw_p84 : lw_okq (⟨"PatchStoreModel", "bad", "(I)I"⟩, 83) := ⟨⟨by decide +kernel, by decide +kernel⟩, List.mem_of_getElem? (i := 1368) (by decide +kernel), List.mem_of_getElem? (i := 1749) (by decide +kernel), List.mem_of_getElem? (i := 1750) (by decide +kernel)⟩
theorem lw_p85 : lw_okq (⟨"PatchStoreModel", "depends", "(I)Z"⟩, 83) := ⟨⟨by decide +kernel, by decide +kernel⟩, List.mem_of_getElem? (i := 1368) (by decide +kernel), List.mem_of_getElem? (i := 1753) (by decide +kernel), List.mem_of_getElem? (i := 1754) (by decide +kernel)⟩
theorem lw_p86 : lw_okq (⟨"PatchStoreModel", "find", "([BI)I"⟩, 83) := ⟨⟨by decide +kernel, by decide +kernel⟩, List.mem_of_getElem? (i := 1368) (by decide +kernel), List.mem_of_getElem? (i := 1757) (by decide +kernel), List.mem_of_getElem? (i := 1758) (by decide +kernel)⟩
theorem lw_p87 : lw_okq (⟨"PatchStoreModel", "hashOf", "([BII[B)V"⟩, 83) := ⟨⟨by decide +kernel, by decide +kernel⟩, List.mem_of_getElem? (i := 1368) (by decide +kernel), List.mem_of_getElem? (i := 1761) (by decide +kernel), List.mem_of_getElem? (i := 1762) (by decide +kernel)⟩
theorem lw_p88 : lw_okq (⟨"PatchStoreModel$Sha256", "spread", "([BI)V"⟩, 8) := ⟨⟨by decide +kernel, by decide +kernel⟩, List.mem_of_getElem? (i := 1382) (by decide +kernel), List.mem_of_getElem? (i := 1799) (by decide +kernel), List.mem_of_getElem? (i := 1800) (by decide +kernel)⟩
theorem lw_p89 : lw_okq (⟨"PatchStoreModel", "put", "(II)V"⟩, 83) := ⟨⟨by decide +kernel, by decide +kernel⟩, List.mem_of_getElem? (i := 1368) (by decide +kernel), List.mem_of_getElem? (i := 1829) (by decide +kernel), List.mem_of_getElem? (i := 1830) (by decide +kernel)⟩
theorem lw_p90 : lw_okq (⟨"PatchStoreModel", "taken", "(I)Z"⟩, 83) := ⟨⟨by decide +kernel, by decide +kernel⟩, List.mem_of_getElem? (i := 1368) (by decide +kernel), List.mem_of_getElem? (i := 1834) (by decide +kernel), List.mem_of_getElem? (i := 1835) (by decide +kernel)⟩
theorem lw_p91 : lw_okq (⟨"PatchStoreModel", "naming", "(II)V"⟩, 83) := ⟨⟨by decide +kernel, by decide +kernel⟩, List.mem_of_getElem? (i := 1368) (by decide +kernel), List.mem_of_getElem? (i := 1838) (by decide +kernel), List.mem_of_getElem? (i := 1839) (by decide +kernel)⟩
theorem lw_p92 : lw_okq (⟨"PatchStoreModel", "called", "(II)Z"⟩, 83) := ⟨⟨by decide +kernel, by decide +kernel⟩, List.mem_of_getElem? (i := 1368) (by decide +kernel), List.mem_of_getElem? (i := 1842) (by decide +kernel), List.mem_of_getElem? (i := 1843) (by decide +kernel)⟩
theorem lw_p93 : lw_okq (⟨"PatchStoreModel", "file", "()I"⟩, 83) := ⟨⟨by decide +kernel, by decide +kernel⟩, List.mem_of_getElem? (i := 1368) (by decide +kernel), List.mem_of_getElem? (i := 1846) (by decide +kernel), List.mem_of_getElem? (i := 1847) (by decide +kernel)⟩
theorem lw_p94 : lw_okq (⟨"PatchStoreModel", "change", "()I"⟩, 83) := ⟨⟨by decide +kernel, by decide +kernel⟩, List.mem_of_getElem? (i := 1368) (by decide +kernel), List.mem_of_getElem? (i := 1850) (by decide +kernel), List.mem_of_getElem? (i := 1851) (by decide +kernel)⟩
theorem lw_p95 : lw_okq (⟨"PatchStoreModel", "inserted", "(II)Z"⟩, 83) := ⟨⟨by decide +kernel, by decide +kernel⟩, List.mem_of_getElem? (i := 1368) (by decide +kernel), List.mem_of_getElem? (i := 1855) (by decide +kernel), List.mem_of_getElem? (i := 1856) (by decide +kernel)⟩
def lw_privs_6 : List (MethodName × Nat) := [(⟨"PatchStoreModel", "changeForm", "()V"⟩, 83), (⟨"PatchStoreModel", "name", "(I)V"⟩, 83), (⟨"PatchStoreModel", "side", "()V"⟩, 83), (⟨"PatchStoreModel", "lineForm", "()V"⟩, 83), (⟨"PatchStoreModel", "bad", "(I)I"⟩, 83), (⟨"PatchStoreModel", "depends", "(I)Z"⟩, 83), (⟨"PatchStoreModel", "find", "([BI)I"⟩, 83), (⟨"PatchStoreModel", "hashOf", "([BII[B)V"⟩, 83), (⟨"PatchStoreModel$Sha256", "spread", "([BI)V"⟩, 8), (⟨"PatchStoreModel", "put", "(II)V"⟩, 83), (⟨"PatchStoreModel", "taken", "(I)Z"⟩, 83), (⟨"PatchStoreModel", "naming", "(II)V"⟩, 83), (⟨"PatchStoreModel", "called", "(II)Z"⟩, 83), (⟨"PatchStoreModel", "file", "()I"⟩, 83), (⟨"PatchStoreModel", "change", "()I"⟩, 83), (⟨"PatchStoreModel", "inserted", "(II)Z"⟩, 83)]
theorem lw_r6 : ∀ q ∈ lw_privs_6, lw_okq q := List.forall_mem_cons.mpr ⟨lw_p80, List.forall_mem_cons.mpr ⟨lw_p81, List.forall_mem_cons.mpr ⟨lw_p82, List.forall_mem_cons.mpr ⟨lw_p83, List.forall_mem_cons.mpr ⟨lw_p84, List.forall_mem_cons.mpr ⟨lw_p85, List.forall_mem_cons.mpr ⟨lw_p86, List.forall_mem_cons.mpr ⟨lw_p87, List.forall_mem_cons.mpr ⟨lw_p88, List.forall_mem_cons.mpr ⟨lw_p89, List.forall_mem_cons.mpr ⟨lw_p90, List.forall_mem_cons.mpr ⟨lw_p91, List.forall_mem_cons.mpr ⟨lw_p92, List.forall_mem_cons.mpr ⟨lw_p93, List.forall_mem_cons.mpr ⟨lw_p94, List.forall_mem_cons.mpr ⟨lw_p95, fun _ h => absurd h List.not_mem_nil⟩⟩⟩⟩⟩⟩⟩⟩⟩⟩⟩⟩⟩⟩⟩⟩
theorem lw_p96 : lw_okq (⟨"PatchStoreModel", "lineRef", "()I"⟩, 83) := ⟨⟨by decide +kernel, by decide +kernel⟩, List.mem_of_getElem? (i := 1368) (by decide +kernel), List.mem_of_getElem? (i := 1859) (by decide +kernel), List.mem_of_getElem? (i := 1860) (by decide +kernel)⟩
theorem lw_p97 : lw_okq (⟨"PatchStoreModel", "store", "([BI)V"⟩, 83) := ⟨⟨by decide +kernel, by decide +kernel⟩, List.mem_of_getElem? (i := 1368) (by decide +kernel), List.mem_of_getElem? (i := 1863) (by decide +kernel), List.mem_of_getElem? (i := 1864) (by decide +kernel)⟩
theorem lw_p98 : lw_okq (⟨"PatchStoreModel", "fileAt", "(II)I"⟩, 83) := ⟨⟨by decide +kernel, by decide +kernel⟩, List.mem_of_getElem? (i := 1368) (by decide +kernel), List.mem_of_getElem? (i := 1871) (by decide +kernel), List.mem_of_getElem? (i := 1872) (by decide +kernel)⟩
theorem lw_p99 : lw_okq (⟨"PatchStoreModel", "list", "(I)I"⟩, 83) := ⟨⟨by decide +kernel, by decide +kernel⟩, List.mem_of_getElem? (i := 1368) (by decide +kernel), List.mem_of_getElem? (i := 1875) (by decide +kernel), List.mem_of_getElem? (i := 1876) (by decide +kernel)⟩
theorem lw_p100 : lw_okq (⟨"PatchStoreModel", "namingsOf", "(II)V"⟩, 83) := ⟨⟨by decide +kernel, by decide +kernel⟩, List.mem_of_getElem? (i := 1368) (by decide +kernel), List.mem_of_getElem? (i := 1879) (by decide +kernel), List.mem_of_getElem? (i := 1880) (by decide +kernel)⟩
theorem lw_p101 : lw_okq (⟨"PatchStoreModel", "isThere", "(II)Z"⟩, 83) := ⟨⟨by decide +kernel, by decide +kernel⟩, List.mem_of_getElem? (i := 1368) (by decide +kernel), List.mem_of_getElem? (i := 1883) (by decide +kernel), List.mem_of_getElem? (i := 1884) (by decide +kernel)⟩
theorem lw_p102 : lw_okq (⟨"PatchStoreModel", "keyOrder", "(II)I"⟩, 83) := ⟨⟨by decide +kernel, by decide +kernel⟩, List.mem_of_getElem? (i := 1368) (by decide +kernel), List.mem_of_getElem? (i := 1887) (by decide +kernel), List.mem_of_getElem? (i := 1888) (by decide +kernel)⟩
theorem lw_p103 : lw_okq (⟨"PatchStoreModel", "order", "(II)I"⟩, 83) := ⟨⟨by decide +kernel, by decide +kernel⟩, List.mem_of_getElem? (i := 1368) (by decide +kernel), List.mem_of_getElem? (i := 1891) (by decide +kernel), List.mem_of_getElem? (i := 1892) (by decide +kernel)⟩
theorem lw_p104 : lw_okq (⟨"PatchStoreModel", "name", "([II)V"⟩, 83) := ⟨⟨by decide +kernel, by decide +kernel⟩, List.mem_of_getElem? (i := 1368) (by decide +kernel), List.mem_of_getElem? (i := 1895) (by decide +kernel), List.mem_of_getElem? (i := 1896) (by decide +kernel)⟩
theorem lw_p105 : lw_okq (⟨"PatchStoreModel", "sayRef", "(I)V"⟩, 83) := ⟨⟨by decide +kernel, by decide +kernel⟩, List.mem_of_getElem? (i := 1368) (by decide +kernel), List.mem_of_getElem? (i := 1899) (by decide +kernel), List.mem_of_getElem? (i := 1900) (by decide +kernel)⟩
theorem lw_p106 : lw_okq (⟨"PatchStoreModel", "split", "()I"⟩, 83) := ⟨⟨by decide +kernel, by decide +kernel⟩, List.mem_of_getElem? (i := 1368) (by decide +kernel), List.mem_of_getElem? (i := 1907) (by decide +kernel), List.mem_of_getElem? (i := 1908) (by decide +kernel)⟩
theorem lw_p107 : lw_okq (⟨"PatchStoreModel", "work", "(II)V"⟩, 83) := ⟨⟨by decide +kernel, by decide +kernel⟩, List.mem_of_getElem? (i := 1368) (by decide +kernel), List.mem_of_getElem? (i := 1912) (by decide +kernel), List.mem_of_getElem? (i := 1913) (by decide +kernel)⟩
theorem lw_p108 : lw_okq (⟨"PatchStoreModel", "fileOfLine", "(I)I"⟩, 83) := ⟨⟨by decide +kernel, by decide +kernel⟩, List.mem_of_getElem? (i := 1368) (by decide +kernel), List.mem_of_getElem? (i := 1916) (by decide +kernel), List.mem_of_getElem? (i := 1917) (by decide +kernel)⟩
theorem lw_p109 : lw_okq (⟨"PatchStoreModel", "edges", "(II)V"⟩, 83) := ⟨⟨by decide +kernel, by decide +kernel⟩, List.mem_of_getElem? (i := 1368) (by decide +kernel), List.mem_of_getElem? (i := 2195) (by decide +kernel), List.mem_of_getElem? (i := 2196) (by decide +kernel)⟩
theorem lw_p110 : lw_okq (⟨"PatchStoreModel", "ways", "()V"⟩, 83) := ⟨⟨by decide +kernel, by decide +kernel⟩, List.mem_of_getElem? (i := 1368) (by decide +kernel), List.mem_of_getElem? (i := 2199) (by decide +kernel), List.mem_of_getElem? (i := 2200) (by decide +kernel)⟩
theorem lw_p111 : lw_okq (⟨"PatchStoreModel", "takeLines", "()V"⟩, 83) := ⟨⟨by decide +kernel, by decide +kernel⟩, List.mem_of_getElem? (i := 1368) (by decide +kernel), List.mem_of_getElem? (i := 2203) (by decide +kernel), List.mem_of_getElem? (i := 2204) (by decide +kernel)⟩
def lw_privs_7 : List (MethodName × Nat) := [(⟨"PatchStoreModel", "lineRef", "()I"⟩, 83), (⟨"PatchStoreModel", "store", "([BI)V"⟩, 83), (⟨"PatchStoreModel", "fileAt", "(II)I"⟩, 83), (⟨"PatchStoreModel", "list", "(I)I"⟩, 83), (⟨"PatchStoreModel", "namingsOf", "(II)V"⟩, 83), (⟨"PatchStoreModel", "isThere", "(II)Z"⟩, 83), (⟨"PatchStoreModel", "keyOrder", "(II)I"⟩, 83), (⟨"PatchStoreModel", "order", "(II)I"⟩, 83), (⟨"PatchStoreModel", "name", "([II)V"⟩, 83), (⟨"PatchStoreModel", "sayRef", "(I)V"⟩, 83), (⟨"PatchStoreModel", "split", "()I"⟩, 83), (⟨"PatchStoreModel", "work", "(II)V"⟩, 83), (⟨"PatchStoreModel", "fileOfLine", "(I)I"⟩, 83), (⟨"PatchStoreModel", "edges", "(II)V"⟩, 83), (⟨"PatchStoreModel", "ways", "()V"⟩, 83), (⟨"PatchStoreModel", "takeLines", "()V"⟩, 83)]
theorem lw_r7 : ∀ q ∈ lw_privs_7, lw_okq q := List.forall_mem_cons.mpr ⟨lw_p96, List.forall_mem_cons.mpr ⟨lw_p97, List.forall_mem_cons.mpr ⟨lw_p98, List.forall_mem_cons.mpr ⟨lw_p99, List.forall_mem_cons.mpr ⟨lw_p100, List.forall_mem_cons.mpr ⟨lw_p101, List.forall_mem_cons.mpr ⟨lw_p102, List.forall_mem_cons.mpr ⟨lw_p103, List.forall_mem_cons.mpr ⟨lw_p104, List.forall_mem_cons.mpr ⟨lw_p105, List.forall_mem_cons.mpr ⟨lw_p106, List.forall_mem_cons.mpr ⟨lw_p107, List.forall_mem_cons.mpr ⟨lw_p108, List.forall_mem_cons.mpr ⟨lw_p109, List.forall_mem_cons.mpr ⟨lw_p110, List.forall_mem_cons.mpr ⟨lw_p111, fun _ h => absurd h List.not_mem_nil⟩⟩⟩⟩⟩⟩⟩⟩⟩⟩⟩⟩⟩⟩⟩⟩
theorem lw_p112 : lw_okq (⟨"PatchStoreModel", "counts", "(II)Z"⟩, 83) := ⟨⟨by decide +kernel, by decide +kernel⟩, List.mem_of_getElem? (i := 1368) (by decide +kernel), List.mem_of_getElem? (i := 2207) (by decide +kernel), List.mem_of_getElem? (i := 2208) (by decide +kernel)⟩
theorem lw_p113 : lw_okq (⟨"PatchStoreModel", "lineOrder", "(II)I"⟩, 83) := ⟨⟨by decide +kernel, by decide +kernel⟩, List.mem_of_getElem? (i := 1368) (by decide +kernel), List.mem_of_getElem? (i := 2211) (by decide +kernel), List.mem_of_getElem? (i := 2212) (by decide +kernel)⟩
theorem lw_p114 : lw_okq (⟨"PatchStoreModel", "compare", "()V"⟩, 83) := ⟨⟨by decide +kernel, by decide +kernel⟩, List.mem_of_getElem? (i := 1368) (by decide +kernel), List.mem_of_getElem? (i := 2215) (by decide +kernel), List.mem_of_getElem? (i := 2216) (by decide +kernel)⟩
theorem lw_p115 : lw_okq (⟨"PatchStoreModel", "same", "(II)Z"⟩, 83) := ⟨⟨by decide +kernel, by decide +kernel⟩, List.mem_of_getElem? (i := 1368) (by decide +kernel), List.mem_of_getElem? (i := 2219) (by decide +kernel), List.mem_of_getElem? (i := 2220) (by decide +kernel)⟩
theorem lw_p116 : lw_okq (⟨"PatchStoreModel", "deletes", "(I)I"⟩, 83) := ⟨⟨by decide +kernel, by decide +kernel⟩, List.mem_of_getElem? (i := 1368) (by decide +kernel), List.mem_of_getElem? (i := 2224) (by decide +kernel), List.mem_of_getElem? (i := 2225) (by decide +kernel)⟩
theorem lw_p117 : lw_okq (⟨"PatchStoreModel", "mention", "(II)V"⟩, 83) := ⟨⟨by decide +kernel, by decide +kernel⟩, List.mem_of_getElem? (i := 1368) (by decide +kernel), List.mem_of_getElem? (i := 2228) (by decide +kernel), List.mem_of_getElem? (i := 2229) (by decide +kernel)⟩
theorem lw_p118 : lw_okq (⟨"PatchStoreModel", "sayLine", "(I)V"⟩, 83) := ⟨⟨by decide +kernel, by decide +kernel⟩, List.mem_of_getElem? (i := 1368) (by decide +kernel), List.mem_of_getElem? (i := 2232) (by decide +kernel), List.mem_of_getElem? (i := 2233) (by decide +kernel)⟩
theorem lw_p119 : lw_okq (⟨"PatchStoreModel", "inserts", "(II)I"⟩, 83) := ⟨⟨by decide +kernel, by decide +kernel⟩, List.mem_of_getElem? (i := 1368) (by decide +kernel), List.mem_of_getElem? (i := 2236) (by decide +kernel), List.mem_of_getElem? (i := 2237) (by decide +kernel)⟩
theorem lw_p120 : lw_okq (⟨"PatchStoreModel", "orders", "(I)I"⟩, 83) := ⟨⟨by decide +kernel, by decide +kernel⟩, List.mem_of_getElem? (i := 1368) (by decide +kernel), List.mem_of_getElem? (i := 2240) (by decide +kernel), List.mem_of_getElem? (i := 2241) (by decide +kernel)⟩
theorem lw_p121 : lw_okq (⟨"PatchStoreModel", "isBefore", "(II)Z"⟩, 83) := ⟨⟨by decide +kernel, by decide +kernel⟩, List.mem_of_getElem? (i := 1368) (by decide +kernel), List.mem_of_getElem? (i := 2244) (by decide +kernel), List.mem_of_getElem? (i := 2245) (by decide +kernel)⟩
theorem lw_p122 : lw_okq (⟨"PatchStoreModel", "lean", "(I)I"⟩, 83) := ⟨⟨by decide +kernel, by decide +kernel⟩, List.mem_of_getElem? (i := 1368) (by decide +kernel), List.mem_of_getElem? (i := 2264) (by decide +kernel), List.mem_of_getElem? (i := 2265) (by decide +kernel)⟩
theorem lw_p123 : lw_okq (⟨"PatchStoreModel", "many", "(I)I"⟩, 83) := ⟨⟨by decide +kernel, by decide +kernel⟩, List.mem_of_getElem? (i := 1368) (by decide +kernel), List.mem_of_getElem? (i := 2275) (by decide +kernel), List.mem_of_getElem? (i := 2276) (by decide +kernel)⟩
theorem lw_p124 : lw_okq (⟨"PatchStoreModel", "leans", "(II)Z"⟩, 83) := ⟨⟨by decide +kernel, by decide +kernel⟩, List.mem_of_getElem? (i := 1368) (by decide +kernel), List.mem_of_getElem? (i := 2283) (by decide +kernel), List.mem_of_getElem? (i := 2284) (by decide +kernel)⟩
theorem lw_p125 : lw_okq (⟨"PatchStoreModel", "shares", "(II)Z"⟩, 83) := ⟨⟨by decide +kernel, by decide +kernel⟩, List.mem_of_getElem? (i := 1368) (by decide +kernel), List.mem_of_getElem? (i := 2299) (by decide +kernel), List.mem_of_getElem? (i := 2300) (by decide +kernel)⟩
theorem lw_p126 : lw_okq (⟨"PatchStoreModel", "sameName", "(II)Z"⟩, 83) := ⟨⟨by decide +kernel, by decide +kernel⟩, List.mem_of_getElem? (i := 1368) (by decide +kernel), List.mem_of_getElem? (i := 2303) (by decide +kernel), List.mem_of_getElem? (i := 2304) (by decide +kernel)⟩
theorem lw_p127 : lw_okq (⟨"PatchStoreModel", "stranded", "(I)I"⟩, 83) := ⟨⟨by decide +kernel, by decide +kernel⟩, List.mem_of_getElem? (i := 1368) (by decide +kernel), List.mem_of_getElem? (i := 2311) (by decide +kernel), List.mem_of_getElem? (i := 2312) (by decide +kernel)⟩
def lw_privs_8 : List (MethodName × Nat) := [(⟨"PatchStoreModel", "counts", "(II)Z"⟩, 83), (⟨"PatchStoreModel", "lineOrder", "(II)I"⟩, 83), (⟨"PatchStoreModel", "compare", "()V"⟩, 83), (⟨"PatchStoreModel", "same", "(II)Z"⟩, 83), (⟨"PatchStoreModel", "deletes", "(I)I"⟩, 83), (⟨"PatchStoreModel", "mention", "(II)V"⟩, 83), (⟨"PatchStoreModel", "sayLine", "(I)V"⟩, 83), (⟨"PatchStoreModel", "inserts", "(II)I"⟩, 83), (⟨"PatchStoreModel", "orders", "(I)I"⟩, 83), (⟨"PatchStoreModel", "isBefore", "(II)Z"⟩, 83), (⟨"PatchStoreModel", "lean", "(I)I"⟩, 83), (⟨"PatchStoreModel", "many", "(I)I"⟩, 83), (⟨"PatchStoreModel", "leans", "(II)Z"⟩, 83), (⟨"PatchStoreModel", "shares", "(II)Z"⟩, 83), (⟨"PatchStoreModel", "sameName", "(II)Z"⟩, 83), (⟨"PatchStoreModel", "stranded", "(I)I"⟩, 83)]
theorem lw_r8 : ∀ q ∈ lw_privs_8, lw_okq q := List.forall_mem_cons.mpr ⟨lw_p112, List.forall_mem_cons.mpr ⟨lw_p113, List.forall_mem_cons.mpr ⟨lw_p114, List.forall_mem_cons.mpr ⟨lw_p115, List.forall_mem_cons.mpr ⟨lw_p116, List.forall_mem_cons.mpr ⟨lw_p117, List.forall_mem_cons.mpr ⟨lw_p118, List.forall_mem_cons.mpr ⟨lw_p119, List.forall_mem_cons.mpr ⟨lw_p120, List.forall_mem_cons.mpr ⟨lw_p121, List.forall_mem_cons.mpr ⟨lw_p122, List.forall_mem_cons.mpr ⟨lw_p123, List.forall_mem_cons.mpr ⟨lw_p124, List.forall_mem_cons.mpr ⟨lw_p125, List.forall_mem_cons.mpr ⟨lw_p126, List.forall_mem_cons.mpr ⟨lw_p127, fun _ h => absurd h List.not_mem_nil⟩⟩⟩⟩⟩⟩⟩⟩⟩⟩⟩⟩⟩⟩⟩⟩
theorem lw_p128 : lw_okq (⟨"PatchStoreModel", "gone", "(III)Z"⟩, 83) := ⟨⟨by decide +kernel, by decide +kernel⟩, List.mem_of_getElem? (i := 1368) (by decide +kernel), List.mem_of_getElem? (i := 2315) (by decide +kernel), List.mem_of_getElem? (i := 2316) (by decide +kernel)⟩
def lw_privs_9 : List (MethodName × Nat) := [(⟨"PatchStoreModel", "gone", "(III)Z"⟩, 83)]
theorem lw_r9 : ∀ q ∈ lw_privs_9, lw_okq q := List.forall_mem_cons.mpr ⟨lw_p128, fun _ h => absurd h List.not_mem_nil⟩
def lw_privs : List (MethodName × Nat) := lw_privs_1 ++ (lw_privs_2 ++ (lw_privs_3 ++ (lw_privs_4 ++ (lw_privs_5 ++ (lw_privs_6 ++ (lw_privs_7 ++ (lw_privs_8 ++ (lw_privs_9))))))))
def lw_tbl : List Cond := k2_sels lw_privs ++ tables_1
theorem lw_privs_ok : ∀ q ∈ lw_privs, lw_okq q := by
  show ∀ q ∈ lw_privs_1 ++ (lw_privs_2 ++ (lw_privs_3 ++ (lw_privs_4 ++ (lw_privs_5 ++ (lw_privs_6 ++ (lw_privs_7 ++ (lw_privs_8 ++ (lw_privs_9)))))))), lw_okq q
  exact List.forall_mem_append.mpr ⟨lw_r1, List.forall_mem_append.mpr ⟨lw_r2, List.forall_mem_append.mpr ⟨lw_r3, List.forall_mem_append.mpr ⟨lw_r4, List.forall_mem_append.mpr ⟨lw_r5, List.forall_mem_append.mpr ⟨lw_r6, List.forall_mem_append.mpr ⟨lw_r7, List.forall_mem_append.mpr ⟨lw_r8, lw_r9⟩⟩⟩⟩⟩⟩⟩⟩
end
section
/-! names: the classes, their fields in an order of our own, the words that all methods share -/
def R_PS : String := "PatchStore"
def F_PS : u_T := fun k => match k with
  | 0 => ("PatchStore", "tape", "[B", true)
  | 1 => ("PatchStore", "repositories", "[LPatchStore$Repository;", true)
  | 2 => ("PatchStore", "sha", "LPatchStore$Sha256;", true)
  | 3 => ("PatchStore", "stock", "LPatchStore$Stock;", true)
  | 4 => ("PatchStore", "intake", "LPatchStore$Intake;", true)
  | 5 => ("PatchStore", "view", "LPatchStore$View;", true)
  | 6 => ("PatchStore", "text", "LPatchStore$Text;", true)
  | 7 => ("PatchStore", "maker", "LPatchStore$Maker;", true)
  | 8 => ("PatchStore", "recording", "LPatchStore$Recording;", true)
  | 9 => ("PatchStore", "tapeLength", "I", false)
  | _ => ("PatchStore", "lastFault", "I", false)
def t_PS : Nat → FieldType := fun k => match k with
  | 0 => .array .byte
  | 1 => .array (.object "PatchStore$Repository")
  | 2 => .object "PatchStore$Sha256"
  | 3 => .object "PatchStore$Stock"
  | 4 => .object "PatchStore$Intake"
  | 5 => .object "PatchStore$View"
  | 6 => .object "PatchStore$Text"
  | 7 => .object "PatchStore$Maker"
  | 8 => .object "PatchStore$Recording"
  | 9 => .int
  | _ => .int
abbrev w_PS : List Cond := u_ws R_PS F_PS 11
theorem n_PS : ∀ a, a < 11 → ∀ b, b < 11 → a ≠ b → (F_PS a).2.1 ≠ (F_PS b).2.1 := by decide +kernel
theorem t_PS_ok : ∀ k, k < 11 → parseFieldDescriptor (F_PS k).2.2.1 = some (t_PS k) := by decide +kernel
def R_Ch : String := "PatchStore$Changes"
def F_Ch : u_T := fun k => match k with
  | 0 => ("PatchStore$Changes", "at", "[I", true)
  | 1 => ("PatchStore$Changes", "patch", "[I", true)
  | 2 => ("PatchStore$Changes", "file", "[I", true)
  | 3 => ("PatchStore$Changes", "firstLine", "[I", true)
  | 4 => ("PatchStore$Changes", "adds", "[I", true)
  | _ => ("PatchStore$Changes", "files", "I", false)
def t_Ch : Nat → FieldType := fun k => match k with
  | 0 => .array .int
  | 1 => .array .int
  | 2 => .array .int
  | 3 => .array .int
  | 4 => .array .int
  | _ => .int
abbrev w_Ch : List Cond := u_ws R_Ch F_Ch 6
theorem n_Ch : ∀ a, a < 6 → ∀ b, b < 6 → a ≠ b → (F_Ch a).2.1 ≠ (F_Ch b).2.1 := by decide +kernel
theorem t_Ch_ok : ∀ k, k < 6 → parseFieldDescriptor (F_Ch k).2.2.1 = some (t_Ch k) := by decide +kernel
def R_Fo : String := "PatchStore$Form"
def F_Fo : u_T := fun k => match k with
  | _ => ("PatchStore$Form", "stock", "LPatchStore$Stock;", true)
def t_Fo : Nat → FieldType := fun k => match k with
  | _ => .object "PatchStore$Stock"
abbrev w_Fo : List Cond := u_ws R_Fo F_Fo 1
theorem n_Fo : ∀ a, a < 1 → ∀ b, b < 1 → a ≠ b → (F_Fo a).2.1 ≠ (F_Fo b).2.1 := by decide +kernel
theorem t_Fo_ok : ∀ k, k < 1 → parseFieldDescriptor (F_Fo k).2.2.1 = some (t_Fo k) := by decide +kernel
def R_In : String := "PatchStore$Intake"
def F_In : u_T := fun k => match k with
  | 0 => ("PatchStore$Intake", "stock", "LPatchStore$Stock;", true)
  | 1 => ("PatchStore$Intake", "changes", "LPatchStore$Changes;", true)
  | 2 => ("PatchStore$Intake", "lines", "LPatchStore$Lines;", true)
  | 3 => ("PatchStore$Intake", "sha", "LPatchStore$Sha256;", true)
  | 4 => ("PatchStore$Intake", "form", "LPatchStore$Form;", true)
  | 5 => ("PatchStore$Intake", "named", "[I", true)
  | 6 => ("PatchStore$Intake", "linesOfFile", "[I", true)
  | 7 => ("PatchStore$Intake", "nextFile", "I", false)
  | _ => ("PatchStore$Intake", "nextLine", "I", false)
def t_In : Nat → FieldType := fun k => match k with
  | 0 => .object "PatchStore$Stock"
  | 1 => .object "PatchStore$Changes"
  | 2 => .object "PatchStore$Lines"
  | 3 => .object "PatchStore$Sha256"
  | 4 => .object "PatchStore$Form"
  | 5 => .array .int
  | 6 => .array .int
  | 7 => .int
  | _ => .int
abbrev w_In : List Cond := u_ws R_In F_In 9
theorem n_In : ∀ a, a < 9 → ∀ b, b < 9 → a ≠ b → (F_In a).2.1 ≠ (F_In b).2.1 := by decide +kernel
theorem t_In_ok : ∀ k, k < 9 → parseFieldDescriptor (F_In k).2.2.1 = some (t_In k) := by decide +kernel
def R_Li : String := "PatchStore$Lines"
def F_Li : u_T := fun k => match k with
  | 0 => ("PatchStore$Lines", "at", "[I", true)
  | 1 => ("PatchStore$Lines", "length", "[I", true)
  | 2 => ("PatchStore$Lines", "change", "[I", true)
  | 3 => ("PatchStore$Lines", "place", "[I", true)
  | 4 => ("PatchStore$Lines", "up", "[I", true)
  | 5 => ("PatchStore$Lines", "down", "[I", true)
  | 6 => ("PatchStore$Lines", "ofFile", "[I", true)
  | _ => ("PatchStore$Lines", "total", "I", false)
def t_Li : Nat → FieldType := fun k => match k with
  | 0 => .array .int
  | 1 => .array .int
  | 2 => .array .int
  | 3 => .array .int
  | 4 => .array .int
  | 5 => .array .int
  | 6 => .array .int
  | _ => .int
abbrev w_Li : List Cond := u_ws R_Li F_Li 8
theorem n_Li : ∀ a, a < 8 → ∀ b, b < 8 → a ≠ b → (F_Li a).2.1 ≠ (F_Li b).2.1 := by decide +kernel
theorem t_Li_ok : ∀ k, k < 8 → parseFieldDescriptor (F_Li k).2.2.1 = some (t_Li k) := by decide +kernel
def R_Mk : String := "PatchStore$Maker"
def F_Mk : u_T := fun k => match k with
  | 0 => ("PatchStore$Maker", "stock", "LPatchStore$Stock;", true)
  | 1 => ("PatchStore$Maker", "named", "[I", true)
  | 2 => ("PatchStore$Maker", "places", "[I", true)
  | 3 => ("PatchStore$Maker", "at", "I", false)
  | _ => ("PatchStore$Maker", "changes", "I", false)
def t_Mk : Nat → FieldType := fun k => match k with
  | 0 => .object "PatchStore$Stock"
  | 1 => .array .int
  | 2 => .array .int
  | 3 => .int
  | _ => .int
abbrev w_Mk : List Cond := u_ws R_Mk F_Mk 5
theorem n_Mk : ∀ a, a < 5 → ∀ b, b < 5 → a ≠ b → (F_Mk a).2.1 ≠ (F_Mk b).2.1 := by decide +kernel
theorem t_Mk_ok : ∀ k, k < 5 → parseFieldDescriptor (F_Mk k).2.2.1 = some (t_Mk k) := by decide +kernel
def R_Rc : String := "PatchStore$Recording"
def F_Rc : u_T := fun k => match k with
  | 0 => ("PatchStore$Recording", "newTotal", "I", false)
  | 1 => ("PatchStore$Recording", "stock", "LPatchStore$Stock;", true)
  | 2 => ("PatchStore$Recording", "text", "LPatchStore$Text;", true)
  | 3 => ("PatchStore$Recording", "maker", "LPatchStore$Maker;", true)
  | 4 => ("PatchStore$Recording", "tape", "[B", true)
  | 5 => ("PatchStore$Recording", "oldTotal", "I", false)
  | 6 => ("PatchStore$Recording", "file", "I", false)
  | 7 => ("PatchStore$Recording", "newAt", "[I", true)
  | 8 => ("PatchStore$Recording", "newLength", "[I", true)
  | 9 => ("PatchStore$Recording", "sorts", "[I", true)
  | 10 => ("PatchStore$Recording", "sums", "[I", true)
  | 11 => ("PatchStore$Recording", "common", "[I", true)
  | 12 => ("PatchStore$Recording", "deleted", "[I", true)
  | 13 => ("PatchStore$Recording", "deletedTotal", "I", false)
  | 14 => ("PatchStore$Recording", "kept", "[I", true)
  | 15 => ("PatchStore$Recording", "keptNew", "[I", true)
  | _ => ("PatchStore$Recording", "keptTotal", "I", false)
def t_Rc : Nat → FieldType := fun k => match k with
  | 0 => .int
  | 1 => .object "PatchStore$Stock"
  | 2 => .object "PatchStore$Text"
  | 3 => .object "PatchStore$Maker"
  | 4 => .array .byte
  | 5 => .int
  | 6 => .int
  | 7 => .array .int
  | 8 => .array .int
  | 9 => .array .int
  | 10 => .array .int
  | 11 => .array .int
  | 12 => .array .int
  | 13 => .int
  | 14 => .array .int
  | 15 => .array .int
  | _ => .int
abbrev w_Rc : List Cond := u_ws R_Rc F_Rc 17
theorem n_Rc : ∀ a, a < 17 → ∀ b, b < 17 → a ≠ b → (F_Rc a).2.1 ≠ (F_Rc b).2.1 := by decide +kernel
theorem t_Rc_ok : ∀ k, k < 17 → parseFieldDescriptor (F_Rc k).2.2.1 = some (t_Rc k) := by decide +kernel
def R_Re : String := "PatchStore$Repository"
def F_Re : u_T := fun k => match k with
  | 0 => ("PatchStore$Repository", "members", "[J", true)
  | 1 => ("PatchStore$Repository", "digest", "[B", true)
  | 2 => ("PatchStore$Repository", "size", "I", false)
  | 3 => ("PatchStore$Repository", "version", "I", false)
  | _ => ("PatchStore$Repository", "digestVersion", "I", false)
def t_Re : Nat → FieldType := fun k => match k with
  | 0 => .array .long
  | 1 => .array .byte
  | 2 => .int
  | 3 => .int
  | _ => .int
abbrev w_Re : List Cond := u_ws R_Re F_Re 5
theorem n_Re : ∀ a, a < 5 → ∀ b, b < 5 → a ≠ b → (F_Re a).2.1 ≠ (F_Re b).2.1 := by decide +kernel
theorem t_Re_ok : ∀ k, k < 5 → parseFieldDescriptor (F_Re k).2.2.1 = some (t_Re k) := by decide +kernel
def R_Sh : String := "PatchStore$Sha256"
def F_Sh : u_T := fun k => match k with
  | 0 => ("PatchStore$Sha256", "sums", "[I", true)
  | 1 => ("PatchStore$Sha256", "words", "[I", true)
  | 2 => ("PatchStore$Sha256", "block", "[B", true)
  | 3 => ("PatchStore$Sha256", "filled", "I", false)
  | _ => ("PatchStore$Sha256", "taken", "I", false)
def t_Sh : Nat → FieldType := fun k => match k with
  | 0 => .array .int
  | 1 => .array .int
  | 2 => .array .byte
  | 3 => .int
  | _ => .int
abbrev w_Sh : List Cond := u_ws R_Sh F_Sh 5
theorem n_Sh : ∀ a, a < 5 → ∀ b, b < 5 → a ≠ b → (F_Sh a).2.1 ≠ (F_Sh b).2.1 := by decide +kernel
theorem t_Sh_ok : ∀ k, k < 5 → parseFieldDescriptor (F_Sh k).2.2.1 = some (t_Sh k) := by decide +kernel
def R_St : String := "PatchStore$Stock"
def F_St : u_T := fun k => match k with
  | 0 => ("PatchStore$Stock", "bytes", "[B", true)
  | 1 => ("PatchStore$Stock", "from", "[I", true)
  | 2 => ("PatchStore$Stock", "firstDependency", "[I", true)
  | 3 => ("PatchStore$Stock", "firstChange", "[I", true)
  | 4 => ("PatchStore$Stock", "dependencies", "[I", true)
  | 5 => ("PatchStore$Stock", "hashes", "[B", true)
  | 6 => ("PatchStore$Stock", "byHash", "[I", true)
  | 7 => ("PatchStore$Stock", "leansOn", "[J", true)
  | 8 => ("PatchStore$Stock", "leantBy", "[J", true)
  | 9 => ("PatchStore$Stock", "changes", "LPatchStore$Changes;", true)
  | 10 => ("PatchStore$Stock", "lines", "LPatchStore$Lines;", true)
  | _ => ("PatchStore$Stock", "patches", "I", false)
def t_St : Nat → FieldType := fun k => match k with
  | 0 => .array .byte
  | 1 => .array .int
  | 2 => .array .int
  | 3 => .array .int
  | 4 => .array .int
  | 5 => .array .byte
  | 6 => .array .int
  | 7 => .array .long
  | 8 => .array .long
  | 9 => .object "PatchStore$Changes"
  | 10 => .object "PatchStore$Lines"
  | _ => .int
abbrev w_St : List Cond := u_ws R_St F_St 12
theorem n_St : ∀ a, a < 12 → ∀ b, b < 12 → a ≠ b → (F_St a).2.1 ≠ (F_St b).2.1 := by decide +kernel
theorem t_St_ok : ∀ k, k < 12 → parseFieldDescriptor (F_St k).2.2.1 = some (t_St k) := by decide +kernel
def R_Tx : String := "PatchStore$Text"
def F_Tx : u_T := fun k => match k with
  | 0 => ("PatchStore$Text", "order", "[I", true)
  | 1 => ("PatchStore$Text", "length", "I", false)
  | 2 => ("PatchStore$Text", "size", "I", false)
  | 3 => ("PatchStore$Text", "unsure", "I", false)
  | 4 => ("PatchStore$Text", "stranded", "I", false)
  | 5 => ("PatchStore$Text", "dead", "I", false)
  | 6 => ("PatchStore$Text", "stock", "LPatchStore$Stock;", true)
  | 7 => ("PatchStore$Text", "changes", "LPatchStore$Changes;", true)
  | 8 => ("PatchStore$Text", "lines", "LPatchStore$Lines;", true)
  | 9 => ("PatchStore$Text", "loaded", "LPatchStore$Repository;", false)
  | 10 => ("PatchStore$Text", "version", "I", false)
  | 11 => ("PatchStore$Text", "loadedFile", "I", false)
  | 12 => ("PatchStore$Text", "rows", "[I", true)
  | 13 => ("PatchStore$Text", "slots", "[I", true)
  | 14 => ("PatchStore$Text", "total", "I", false)
  | 15 => ("PatchStore$Text", "reach", "[J", true)
  | 16 => ("PatchStore$Text", "deleters", "[J", true)
  | 17 => ("PatchStore$Text", "gone", "[I", true)
  | _ => ("PatchStore$Text", "waits", "[I", true)
def t_Tx : Nat → FieldType := fun k => match k with
  | 0 => .array .int
  | 1 => .int
  | 2 => .int
  | 3 => .int
  | 4 => .int
  | 5 => .int
  | 6 => .object "PatchStore$Stock"
  | 7 => .object "PatchStore$Changes"
  | 8 => .object "PatchStore$Lines"
  | 9 => .object "PatchStore$Repository"
  | 10 => .int
  | 11 => .int
  | 12 => .array .int
  | 13 => .array .int
  | 14 => .int
  | 15 => .array .long
  | 16 => .array .long
  | 17 => .array .int
  | _ => .array .int
abbrev w_Tx : List Cond := u_ws R_Tx F_Tx 19
theorem n_Tx : ∀ a, a < 19 → ∀ b, b < 19 → a ≠ b → (F_Tx a).2.1 ≠ (F_Tx b).2.1 := by decide +kernel
theorem t_Tx_ok : ∀ k, k < 19 → parseFieldDescriptor (F_Tx k).2.2.1 = some (t_Tx k) := by decide +kernel
def R_Vw : String := "PatchStore$View"
def F_Vw : u_T := fun k => match k with
  | 0 => ("PatchStore$View", "files", "[I", true)
  | 1 => ("PatchStore$View", "namingsOf", "[I", true)
  | 2 => ("PatchStore$View", "namings", "[I", true)
  | 3 => ("PatchStore$View", "fileTotal", "I", false)
  | 4 => ("PatchStore$View", "namingTotal", "I", false)
  | 5 => ("PatchStore$View", "stock", "LPatchStore$Stock;", true)
  | 6 => ("PatchStore$View", "changes", "LPatchStore$Changes;", true)
  | 7 => ("PatchStore$View", "loaded", "LPatchStore$Repository;", false)
  | 8 => ("PatchStore$View", "version", "I", false)
  | 9 => ("PatchStore$View", "over", "[I", true)
  | 10 => ("PatchStore$View", "round", "I", false)
  | 11 => ("PatchStore$View", "heads", "[I", true)
  | 12 => ("PatchStore$View", "nexts", "[I", true)
  | _ => ("PatchStore$View", "sharing", "[I", true)
def t_Vw : Nat → FieldType := fun k => match k with
  | 0 => .array .int
  | 1 => .array .int
  | 2 => .array .int
  | 3 => .int
  | 4 => .int
  | 5 => .object "PatchStore$Stock"
  | 6 => .object "PatchStore$Changes"
  | 7 => .object "PatchStore$Repository"
  | 8 => .int
  | 9 => .array .int
  | 10 => .int
  | 11 => .array .int
  | 12 => .array .int
  | _ => .array .int
abbrev w_Vw : List Cond := u_ws R_Vw F_Vw 14
theorem n_Vw : ∀ a, a < 14 → ∀ b, b < 14 → a ≠ b → (F_Vw a).2.1 ≠ (F_Vw b).2.1 := by decide +kernel
theorem t_Vw_ok : ∀ k, k < 14 → parseFieldDescriptor (F_Vw k).2.2.1 = some (t_Vw k) := by decide +kernel
def R_Md : String := "PatchStoreModel"
def F_Md : u_T := fun k => match k with
  | 0 => ("PatchStoreModel", "tape", "[B", true)
  | 1 => ("PatchStoreModel", "size", "I", false)
  | 2 => ("PatchStoreModel", "thrown", "I", false)
  | 3 => ("PatchStoreModel", "fault", "I", false)
  | 4 => ("PatchStoreModel", "bytes", "[B", true)
  | 5 => ("PatchStoreModel", "used", "I", false)
  | 6 => ("PatchStoreModel", "at", "[I", true)
  | 7 => ("PatchStoreModel", "length", "[I", true)
  | 8 => ("PatchStoreModel", "depAt", "[I", true)
  | 9 => ("PatchStoreModel", "firstChange", "[I", true)
  | 10 => ("PatchStoreModel", "hashes", "[[B", true)
  | 11 => ("PatchStoreModel", "deps", "[I", true)
  | 12 => ("PatchStoreModel", "patches", "I", false)
  | 13 => ("PatchStoreModel", "sort", "[I", true)
  | 14 => ("PatchStoreModel", "of", "[I", true)
  | 15 => ("PatchStoreModel", "fileOf", "[I", true)
  | 16 => ("PatchStoreModel", "one", "[I", true)
  | 17 => ("PatchStoreModel", "two", "[I", true)
  | 18 => ("PatchStoreModel", "nameAt", "[I", true)
  | 19 => ("PatchStoreModel", "nameSize", "[I", true)
  | 20 => ("PatchStoreModel", "overAt", "[I", true)
  | 21 => ("PatchStoreModel", "overCount", "[I", true)
  | 22 => ("PatchStoreModel", "lineAt", "[I", true)
  | 23 => ("PatchStoreModel", "lineCount", "[I", true)
  | 24 => ("PatchStoreModel", "changes", "I", false)
  | 25 => ("PatchStoreModel", "overs", "[I", true)
  | 26 => ("PatchStoreModel", "overTotal", "I", false)
  | 27 => ("PatchStoreModel", "lineChange", "[I", true)
  | 28 => ("PatchStoreModel", "textAt", "[I", true)
  | 29 => ("PatchStoreModel", "textSize", "[I", true)
  | 30 => ("PatchStoreModel", "lines", "I", false)
  | 31 => ("PatchStoreModel", "fileChange", "[I", true)
  | 32 => ("PatchStoreModel", "fileLines", "[I", true)
  | 33 => ("PatchStoreModel", "files", "I", false)
  | 34 => ("PatchStoreModel", "sets", "[[Z", true)
  | 35 => ("PatchStoreModel", "stamp", "I", false)
  | 36 => ("PatchStoreModel", "digest", "LPatchStoreModel$Sha256;", true)
  | 37 => ("PatchStoreModel", "in", "[B", false)
  | 38 => ("PatchStoreModel", "pos", "I", false)
  | 39 => ("PatchStoreModel", "stop", "I", false)
  | 40 => ("PatchStoreModel", "wrong", "Z", false)
  | 41 => ("PatchStoreModel", "dep", "[I", true)
  | 42 => ("PatchStoreModel", "named", "[Z", true)
  | 43 => ("PatchStoreModel", "depCount", "I", false)
  | 44 => ("PatchStoreModel", "own", "I", false)
  | 45 => ("PatchStoreModel", "refFile", "I", false)
  | 46 => ("PatchStoreModel", "full", "Z", false)
  | 47 => ("PatchStoreModel", "h", "[B", true)
  | 48 => ("PatchStoreModel", "counts", "[I", true)
  | 49 => ("PatchStoreModel", "marked", "[Z", true)
  | 50 => ("PatchStoreModel", "namings", "[I", true)
  | 51 => ("PatchStoreModel", "namingCount", "I", false)
  | 52 => ("PatchStoreModel", "listed", "[[I", true)
  | 53 => ("PatchStoreModel", "listedCount", "[I", true)
  | 54 => ("PatchStoreModel", "listedStamp", "[I", true)
  | 55 => ("PatchStoreModel", "member", "[I", true)
  | 56 => ("PatchStoreModel", "text", "[I", true)
  | 57 => ("PatchStoreModel", "place", "[I", true)
  | 58 => ("PatchStoreModel", "dead", "[Z", true)
  | 59 => ("PatchStoreModel", "edge", "[[Z", true)
  | 60 => ("PatchStoreModel", "way", "[[Z", true)
  | 61 => ("PatchStoreModel", "members", "I", false)
  | 62 => ("PatchStoreModel", "textLines", "I", false)
  | 63 => ("PatchStoreModel", "unsure", "I", false)
  | 64 => ("PatchStoreModel", "workedRepository", "I", false)
  | 65 => ("PatchStoreModel", "workedFile", "I", false)
  | 66 => ("PatchStoreModel", "workedStamp", "I", false)
  | 67 => ("PatchStoreModel", "stack", "[I", true)
  | 68 => ("PatchStoreModel", "before", "[I", true)
  | 69 => ("PatchStoreModel", "left", "[Z", true)
  | 70 => ("PatchStoreModel", "made", "[B", true)
  | 71 => ("PatchStoreModel", "madeSize", "I", false)
  | 72 => ("PatchStoreModel", "need", "[I", true)
  | 73 => ("PatchStoreModel", "needs", "I", false)
  | 74 => ("PatchStoreModel", "newAt", "[I", true)
  | 75 => ("PatchStoreModel", "newSize", "[I", true)
  | 76 => ("PatchStoreModel", "news", "I", false)
  | 77 => ("PatchStoreModel", "common", "[[I", true)
  | 78 => ("PatchStoreModel", "keptAs", "[I", true)
  | 79 => ("PatchStoreModel", "isNew", "[Z", true)
  | 80 => ("PatchStoreModel", "keptFrom", "[I", true)
  | 81 => ("PatchStoreModel", "stateOf", "[B", true)
  | _ => ("PatchStoreModel", "rising", "[I", true)
def t_Md : Nat → FieldType := fun k => match k with
  | 0 => .array .byte
  | 1 => .int
  | 2 => .int
  | 3 => .int
  | 4 => .array .byte
  | 5 => .int
  | 6 => .array .int
  | 7 => .array .int
  | 8 => .array .int
  | 9 => .array .int
  | 10 => .array (.array .byte)
  | 11 => .array .int
  | 12 => .int
  | 13 => .array .int
  | 14 => .array .int
  | 15 => .array .int
  | 16 => .array .int
  | 17 => .array .int
  | 18 => .array .int
  | 19 => .array .int
  | 20 => .array .int
  | 21 => .array .int
  | 22 => .array .int
  | 23 => .array .int
  | 24 => .int
  | 25 => .array .int
  | 26 => .int
  | 27 => .array .int
  | 28 => .array .int
  | 29 => .array .int
  | 30 => .int
  | 31 => .array .int
  | 32 => .array .int
  | 33 => .int
  | 34 => .array (.array .boolean)
  | 35 => .int
  | 36 => .object "PatchStoreModel$Sha256"
  | 37 => .array .byte
  | 38 => .int
  | 39 => .int
  | 40 => .boolean
  | 41 => .array .int
  | 42 => .array .boolean
  | 43 => .int
  | 44 => .int
  | 45 => .int
  | 46 => .boolean
  | 47 => .array .byte
  | 48 => .array .int
  | 49 => .array .boolean
  | 50 => .array .int
  | 51 => .int
  | 52 => .array (.array .int)
  | 53 => .array .int
  | 54 => .array .int
  | 55 => .array .int
  | 56 => .array .int
  | 57 => .array .int
  | 58 => .array .boolean
  | 59 => .array (.array .boolean)
  | 60 => .array (.array .boolean)
  | 61 => .int
  | 62 => .int
  | 63 => .int
  | 64 => .int
  | 65 => .int
  | 66 => .int
  | 67 => .array .int
  | 68 => .array .int
  | 69 => .array .boolean
  | 70 => .array .byte
  | 71 => .int
  | 72 => .array .int
  | 73 => .int
  | 74 => .array .int
  | 75 => .array .int
  | 76 => .int
  | 77 => .array (.array .int)
  | 78 => .array .int
  | 79 => .array .boolean
  | 80 => .array .int
  | 81 => .array .byte
  | _ => .array .int
abbrev w_Md : List Cond := u_ws R_Md F_Md 83
theorem n_Md : ∀ a, a < 83 → ∀ b, b < 83 → a ≠ b → (F_Md a).2.1 ≠ (F_Md b).2.1 := by decide +kernel
theorem t_Md_ok : ∀ k, k < 83 → parseFieldDescriptor (F_Md k).2.2.1 = some (t_Md k) := by decide +kernel
def R_MS : String := "PatchStoreModel$Sha256"
def F_MS : u_T := fun k => match k with
  | 0 => ("PatchStoreModel$Sha256", "h", "[I", true)
  | 1 => ("PatchStoreModel$Sha256", "w", "[I", true)
  | 2 => ("PatchStoreModel$Digest", "size", "I", true)
  | 3 => ("PatchStoreModel$Digest", "block", "I", true)
  | 4 => ("PatchStoreModel$Digest", "gathered", "[B", true)
  | 5 => ("PatchStoreModel$Digest", "filled", "I", false)
  | 6 => ("PatchStoreModel$Digest", "total", "J", false)
  | _ => ("PatchStoreModel$Digest", "blocks", "I", false)
def t_MS : Nat → FieldType := fun k => match k with
  | 0 => .array .int
  | 1 => .array .int
  | 2 => .int
  | 3 => .int
  | 4 => .array .byte
  | 5 => .int
  | 6 => .long
  | _ => .int
abbrev w_MS : List Cond := u_ws R_MS F_MS 8
theorem n_MS : ∀ a, a < 8 → ∀ b, b < 8 → a ≠ b → (F_MS a).2.1 ≠ (F_MS b).2.1 := by decide +kernel
theorem t_MS_ok : ∀ k, k < 8 → parseFieldDescriptor (F_MS k).2.2.1 = some (t_MS k) := by decide +kernel
abbrev classes : List vw_C := [(R_PS, F_PS, 11), (R_Ch, F_Ch, 6), (R_Fo, F_Fo, 1), (R_In, F_In, 9), (R_Li, F_Li, 8), (R_Mk, F_Mk, 5), (R_Rc, F_Rc, 17), (R_Re, F_Re, 5), (R_Sh, F_Sh, 5), (R_St, F_St, 12), (R_Tx, F_Tx, 19), (R_Vw, F_Vw, 14), (R_Md, F_Md, 83), (R_MS, F_MS, 8)]
/-- the words of the tables that every method may use and that stay when the tables warm -/
def xg_1 : List Cond := lw_tbl.filter goodWord
/-- those that stay too, by other laws: nest mates' links, what a class declares, what can be cast -/
def xg_b : Cond → Bool
  | .fieldLinkNest .. => true
  | .methodLinkNest .. => true
  | w => w.onTables && (w.faceAtom || w.castAtom)
def xg_2 : List Cond := lw_tbl.filter xg_b
theorem xg_good {w : Cond} (h : w ∈ xg_1) : goodWord w = true := (List.mem_filter.mp h).2
theorem xg_in {c : Cond} (h : c ∈ xg_1) : GoodIn xg_1 (c :: xg_1) := by
  intro w hw
  rcases List.mem_cons.mp hw with rfl | h2
  · exact ⟨h, good_of_word (xg_good h)⟩
  · exact ⟨h2, good_of_word (xg_good h2)⟩
theorem xg_p (i : Nat) {q : MethodName × Nat} (h : lw_privs[i]? = some q) : Cond.selects q.1.cls q.1 q.1 ∈ xg_1 := by
  refine List.mem_filter.mpr ⟨List.mem_append_left _ ?_, rfl⟩
  exact List.mem_map.mpr ⟨q, List.mem_of_getElem? h, rfl⟩
def xg_N (U : State) : Prop := ∀ w ∈ xg_2, va_Nw w U
theorem xg_on {w : Cond} (h : xg_b w = true) : w.onTables = true := by
  cases w <;> first | rfl | (simp [xg_b, Cond.onTables] at h)
theorem xg_N.same {u U : State} (h : u.vm = U.vm) (hn : xg_N u) : xg_N U := fun w hw => va_Nw.same (xg_on (List.mem_filter.mp hw).2) h (hn w hw)
theorem xg_N.warm {s U : State} (hW : s.WarmedH U.vm) (hn : xg_N s) : xg_N U := by
  intro w hw
  have hb := (List.mem_filter.mp hw).2
  have h0 : w.before #[] s = true := hn w hw
  have key : w.before #[] (s.setVm U.vm) = true := by
    cases w with
    | fieldLinkNest a i b n d h => exact Cond.fieldLinkNest_warmed (args := #[]) hW h0
    | methodLinkNest a i x h => exact Cond.methodLinkNest_warmed (args := #[]) hW h0
    | _ =>
      simp only [xg_b, Bool.and_eq_true, Bool.or_eq_true] at hb
      rcases hb.2 with h | h
      · exact Cond.faceAtom_setVm hW.alike _ h h0
      · exact Cond.castAtom_setVm hW.alike _ h h0
  exact va_tabs (xg_on hb) (rfl : (s.setVm U.vm).vm = U.vm) key
end
