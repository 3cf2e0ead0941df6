/-! XC: a call of a method that may throw -/
section XC2
variable {p : Program} {l : Launch} {e : Env} {R : Room} {s : State} {m : MethodId} {args : Array Value} {below : List Frame} {meth : Method} {c : Code} {locs : List Loc} {cells slots : Nat}
theorem xc_back {y : MethodName} {ws : List Cond} {rm : Room} {Pc : Array Value → State → Prop} {Qc : Array Value → State → Outcome → State → Prop} {mc ms : Nat} {free : Addr → Prop} {U : State} {g : JFrame} {ig : Instr} {mk : MethodId} {a : Array Value} {len maxL : Nat} {methY : Method} {cY : Code}
    (hM : xc_Met l y ws rm Pc Qc mc ms free) (X : Stand p l e R s m args below meth c U locs cells slots)
    (hg : g.method = m) (hsize : g.locals.size = c.maxLocals) (hdg : decode c.code g.pc = .ok (ig, len)) (hW : 2 * g.monitorRoom + (g.stack.map fun v => v.category).sum ≤ 8)
    (hn : U.methodNamed? y = some mk) (hmY : U.vm.method? mk = some methY) (hcY : methY.code = some cY) (hlY : cY.maxLocals = maxL)
    (hini : (Cond.initialized y.cls).before a U = true) (hws : ∀ w ∈ ws, w.before a U = true)
    (hframes : rm.frames + 1 ≤ R.frames) (hlocals : 8 + (maxL + 11) + rm.locals ≤ R.locals) (hrc : cells + rm.cells ≤ R.cells) (hrs : slots + rm.slots ≤ R.slots)
    (hP : Pc a (U.calling g mk a)) :
    ∃ (o : Outcome) (t U' : State) (L : List Loc), Stand p l e R s m args below meth c U' (locs ++ L) (cells + mc) (slots + ms) ∧ (∀ q ∈ L, free q.base) ∧ U'.heap = t.heap ∧ U'.vm = t.vm ∧ Qc a (U.calling g mk a) o t ∧
      (∀ v, o = .returned v → Steps p.tables e below (doInvoke e (U.setTop g) [] mk a).1 (U'.setTop { g with pc := g.pc + len, stack := v.toList ++ g.stack })) ∧
      (∀ x, o = .threw x → Steps p.tables e below (doInvoke e (U.setTop g) [] mk a).1 ((U'.setTop g).pushFrame (.throwing x))) := by
  obtain ⟨kY, hkY, -⟩ := className_of_methodNamed hn
  have hinitY : kY.init = .initialized := Cond.initialized_spec (findClass_of_methodNamed hn) hkY hini
  have h : At U g.method c below := by rw [hg]; exact X.here
  have hpre : (headSpec ws rm).pre.before a U = true := atoms_intro hws
  have happ : (headSpec ws rm).appliesLoose y e.platform (U.calling g mk a) = true :=
    Spec.appliesLoose_calling (g := g) h hdg hn hkY hinitY
      (X.room_calling (g := g) (R' := (headSpec ws rm).room) hsize hmY hcY hframes (by rw [hlY]; show _ + _ + _ + rm.locals ≤ _; omega) hrc hrs) hpre
  obtain ⟨mid, hmid⟩ := h.above
  have hfr : (U.setTop g).frames = (.java g :: mid) ++ below := by rw [State.frames_setTop' g h.top, hmid]; rfl
  obtain ⟨o, s₂, hsteps, -, hend, hq⟩ := Steps.callFree hM p X.admits X.cas X.clock (acts := []) hfr happ hP trivial
  have hq' : Qc a (U.calling g mk a) o s₂ ∧ ∃ L, xc_End (U.calling g mk a) s₂ L mc ms ∧ ∀ q ∈ L, free q.base := hq
  obtain ⟨hQ, L, ⟨hW₂, e2, q2, q3, q4, q5, q6⟩, hL⟩ := hq'
  rw [State.frames_setTop' g h.top] at hend
  have e3 : s₂ = ({ (U.calling g mk a).setFrames s₂.frames with heap := s₂.heap, slotsUsed := s₂.slotsUsed } : State).setVm s₂.vm := by
    have : s₂ = ({ s₂ with vm := (U.calling g mk a).vm } : State).setVm s₂.vm := rfl
    rw [e2] at this
    exact this
  have hW' : U.WarmedH s₂.vm := hW₂
  obtain ⟨g₀, hg0⟩ := Option.isSome_iff_exists.mp h.top
  obtain ⟨r, hr⟩ := State.topJava?_eq_some.mp hg0
  have hr' : (({ U with heap := s₂.heap, slotsUsed := s₂.slotsUsed } : State).setVm s₂.vm).frames = .java g₀ :: r := hr
  have hsame : U.sameButNew ({ U with heap := s₂.heap, slotsUsed := s₂.slotsUsed } : State) L mc ms := by
    refine ⟨?_, q2, q3, q4, q5, q6⟩
    obtain ⟨t, ht, -⟩ := State.frames_cons hr
    show ({ U with heap := s₂.heap, slotsUsed := s₂.slotsUsed } : State) = { U.setFrames U.frames with heap := s₂.heap, slotsUsed := s₂.slotsUsed }
    rw [State.setFrames_self ht]
  subst hg
  refine ⟨o, s₂, ({ U with heap := s₂.heap, slotsUsed := s₂.slotsUsed } : State).setVm s₂.vm, L,
    ⟨X.admits, X.cas, X.clock, X.frames, X.room, X.hears, X.method, X.code, (X.here.setHeapUsed s₂.heap s₂.slotsUsed).setVm hW'.alike, X.tail, State.WarmedH.trans X.warmed hW', X.limits, X.bytes, X.same.trans (hsame.setVm s.vm)⟩,
    hL, rfl, rfl, hQ, ?_, ?_⟩
  · intro v hv
    subst hv
    obtain ⟨c₂, i₂, len₂, hc₂, hd₂, hf₂⟩ := hend
    have hcc : c₂ = c := by
      have h1 : s₂.code? g.method = U.code? g.method := by
        rw [State.code?_eq, State.code?_eq, hW'.alike.method?]
      exact Option.some.inj (hc₂.symm.trans (h1.trans h.code))
    subst hcc
    have hlen : len₂ = len := by rw [hdg] at hd₂; cases hd₂; rfl
    subst hlen
    have hs₂ : s₂ = (({ U with heap := s₂.heap, slotsUsed := s₂.slotsUsed } : State).setVm s₂.vm).setTop { g with pc := g.pc + len₂, stack := v.toList ++ g.stack } := by
      refine e3.trans ?_
      rw [hf₂, State.calling_eq h.top, State.setFrames_setFrames, State.setTop_of_frames _ hr', hr]
      rfl
    rw [← hs₂]
    exact hsteps
  · intro x hv
    subst hv
    have hf₂ : s₂.frames = .throwing x :: .java g :: U.frames.tail := hend
    have hs₂ : s₂ = ((({ U with heap := s₂.heap, slotsUsed := s₂.slotsUsed } : State).setVm s₂.vm).setTop g).pushFrame (.throwing x) := by
      refine e3.trans ?_
      rw [hf₂, State.calling_eq h.top, State.setFrames_setFrames, State.pushFrame, State.frames_setTop _ hr', State.setTop_of_frames _ hr', State.setFrames_setFrames, hr]
      rfl
    rw [← hs₂]
    exact hsteps
/-- what is known of the called method, by its 'code' or its 'codeWith' -/
def xc_Is (s : State) (y : MethodName) (maxL : Nat) : Prop := ∃ (mk : MethodId) (methY : Method) (cY : Code), s.methodNamed? y = some mk ∧ s.vm.method? mk = some methY ∧ methY.code = some cY ∧ cY.maxLocals = maxL ∧ parseMethodDescriptor y.desc = some methY.sig
theorem xc_Is.code {y : MethodName} {bytes : ByteArray} {maxL : Nat} {ret : Option FieldType} (h : (Cond.code y bytes maxL ret).before args s = true) : xc_Is s y maxL := by
  obtain ⟨mk, hn⟩ := Cond.code_named h
  obtain ⟨methM, cM, h1, h2, -, h4, -, -, -, h8⟩ := Cond.code_spec hn h
  exact ⟨mk, methM, cM, hn, h1, h2, h4, h8⟩
theorem xc_Is.codeH {y : MethodName} {bytes : ByteArray} {maxL : Nat} {ret : Option FieldType} {hh : List (Nat × Nat × Nat × Nat)} (h : (Cond.codeWith y bytes maxL ret hh).before args s = true) : xc_Is s y maxL := by
  obtain ⟨mk, methM, cM, hn, h1, h2, -, h4, -, -, -, h8⟩ := Cond.codeWith_spec h
  exact ⟨mk, methM, cM, hn, h1, h2, h4, h8⟩
/-- the callee's words and room, as a caller has them -/
def xc_B (R : Room) (s : State) (args : Array Value) (y : MethodName) (maxL : Nat) (ws : List Cond) (rm : Room) (mc ms n : Nat) : Prop :=
  rm.cells = mc ∧ rm.slots = ms ∧ rm.frames + 1 ≤ R.frames ∧ 8 + (maxL + 11) + rm.locals ≤ R.locals ∧ (∀ w ∈ ws, ∀ (a' : Array Value) (U : State), s.WarmedH U.vm → w.before a' U = true) ∧
  xc_Is s y maxL ∧ (Cond.initialized y.cls).before args s = true ∧ (y.cls ≠ "java/lang/invoke/MethodHandle" ∧ y.cls ≠ "java/lang/invoke/VarHandle") ∧ (∀ sig, parseMethodDescriptor y.desc = some sig → n = sig.parameters.length)
theorem xc_bOf {y : MethodName} {maxL : Nat} {Ts ws : List Cond} {rm : Room} {mc ms : Nat} (n : Nat) (ht : ∀ w ∈ Ts, w.before args s = true) (hG : GoodIn Ts ws) (hIs : xc_Is s y maxL) (hrc : rm.cells = mc) (hrs : rm.slots = ms) (hini : (Cond.initialized y.cls).before args s = true)
    (hd : y.cls ≠ "java/lang/invoke/MethodHandle" ∧ y.cls ≠ "java/lang/invoke/VarHandle" ∧ (parseMethodDescriptor y.desc).map (fun d => d.parameters.length) = some n) (hR : rm.frames + 1 ≤ R.frames ∧ 8 + (maxL + 11) + rm.locals ≤ R.locals) :
    xc_B R s args y maxL ws rm mc ms n := by
  refine ⟨hrc, hrs, hR.1, hR.2, pay_in ht hG, hIs, hini, ⟨hd.1, hd.2.1⟩, fun sig h => ?_⟩
  have h2 := hd.2.2
  rw [h] at h2
  exact (Option.some.inj h2).symm
/-- a call, run: it comes back, or the note of its throw lies over the caller's frame -/
def xc_Run (p : Program) (l : Launch) (e : Env) (R : Room) (s : State) (m : MethodId) (args : Array Value) (below : List Frame) (meth : Method) (c : Code) (H : Heap) (locs : List Loc) (cells slots mc ms : Nat) (g : JFrame) (rest : List Value) (Qa : State → Outcome → State → Prop) (free : Addr → Prop) : Prop :=
  ∀ T : State, T.heap = H → Stand p l e R s m args below meth c T locs cells slots → ∃ (o : Outcome) (st₀ t T' : State) (L : List Loc), st₀.heap = H ∧ Stand p l e R s m args below meth c T' (locs ++ L) (cells + mc) (slots + ms) ∧ (∀ q ∈ L, free q.base) ∧ T'.heap = t.heap ∧ T'.vm = t.vm ∧ Qa st₀ o t ∧
    (∀ v, o = .returned v → Goes p e below T g T' { g with pc := g.pc + 3, stack := v.toList ++ rest }) ∧
    (∀ x, o = .threw x → ∀ tg, Steps p.tables e below ((T'.setTop { g with stack := rest }).pushFrame (.throwing x)) tg → Steps p.tables e below (T.setTop g) tg)
variable {H : Heap}
/-- from the invoking instruction on, whatever it is -/
theorem xc_site {y : MethodName} {ws : List Cond} {rm : Room} {Pc : Array Value → State → Prop} {Qc : Array Value → State → Outcome → State → Prop} {mc ms n maxL : Nat} {free : Addr → Prop} {g : JFrame} {rest : List Value} {ig : Instr} {a : Array Value}
    (hM : xc_Met l y ws rm Pc Qc mc ms free) (cw : xc_B R s args y maxL ws rm mc ms n) (hbl : FrameBlind Pc) (hPc : ∀ U : State, U.heap = H → s.WarmedH U.vm → Pc a U)
    (hg : g.method = m) (hsize : g.locals.size = c.maxLocals) (hW : 2 * g.monitorRoom + (rest.map fun v => v.category).sum ≤ 8) (hdg : decode c.code g.pc = .ok (ig, 3)) (hf : cells + mc ≤ R.cells ∧ slots + ms ≤ R.slots)
    (hinv : ∀ (T : State) (mk : MethodId), T.heap = H → Stand p l e R s m args below meth c T locs cells slots → s.methodNamed? y = some mk → ∃ vm', Stand p l e R s m args below meth c (T.setVm vm') locs cells slots ∧
      ∀ target, (∀ acts, Steps p.tables e below (doInvoke e ((T.setVm vm').setTop { g with stack := rest }) acts mk a).1 target) → Steps p.tables e below (T.setTop g) target) :
    xc_Run p l e R s m args below meth c H locs cells slots mc ms g rest (Qc a) free := by
  intro T hT X
  obtain ⟨hrc, hrs, hfr, hlo, hws, ⟨mk, methY, cY, hn, hmY, hcY, hlY, -⟩, hini, -, -⟩ := cw
  obtain ⟨vm', X₁, hst⟩ := hinv T mk hT X hn
  obtain ⟨o, t, U', L, X', hL, e1, e2, hq, hret, hthr⟩ := xc_back (g := { g with stack := rest }) (mk := mk) (a := a) (methY := methY) (cY := cY) hM X₁ hg hsize hdg hW (X₁.named hn)
    (by rw [X₁.warmed.alike.method?]; exact hmY) hcY hlY (word_at X₁.warmed (Or.inl (by first | rfl | simp [Cond.onTables, Cond.keeps, Cond.steady])) hini) (fun w hw => hws w hw _ _ X₁.warmed) hfr hlo (by rw [hrc]; exact hf.1) (by rw [hrs]; exact hf.2)
    (hbl _ _ _ _ (hPc (T.setVm vm') hT X₁.warmed))
  refine ⟨o, (T.setVm vm').calling { g with stack := rest } mk a, t, U', L, hT, X', hL, e1, e2, hq, ?_, ?_⟩
  · intro v hv target h
    exact hst _ fun acts => by rw [doInvoke_state]; exact (hret v hv).trans h
  · intro x hx target h
    exact hst _ fun acts => by rw [doInvoke_state]; exact (hthr x hx).trans h
variable {y : MethodName} {cc : ByteArray} {maxL nL mc ms n index : Nat} {ws : List Cond} {rm : Room} {Pc : Array Value → State → Prop} {Qc : Array Value → State → Outcome → State → Prop} {free : Addr → Prop} {Ts : List Cond} {own C host : String} {b : Addr} {As rest : List Value} {g : JFrame}
theorem xc_runV (S : CallFix p m c cc nL s args Ts own) (hM : xc_Met l y ws rm Pc Qc mc ms free) (cw : xc_B R s args y maxL ws rm mc ms n) (hlink : (Cond.methodLink own index y).before args s = true) (hin : (Cond.instanceMethod y).before args s = true) (hse : (Cond.selects C y y).before args s = true) (hp : PreV s H C b Pc As)
    (hg : g.method = m) (hn : As.length = n) (hsize : g.locals.size = nL) (hstack : g.stack = As.reverse ++ .ref b :: rest) (hW : 2 * g.monitorRoom + (rest.map fun v => v.category).sum ≤ 8) (hdg : decode cc g.pc = .ok (.invokevirtual index, 3)) (hf : cells + mc ≤ R.cells ∧ slots + ms ≤ R.slots) :
    xc_Run p l e R s m args below meth c H locs cells slots mc ms g rest (Qc (Value.ref b :: As).toArray) free := by
  obtain ⟨hx, hb, hml, ho, -⟩ := S
  obtain ⟨hbl, ⟨cellB, hcB, hoB, hclB⟩, hPc⟩ := hp
  obtain ⟨-, -, -, -, -, ⟨mk0, methY, cY, hn0, hmY, hcY, hlY, hsig⟩, -, hy, hlen⟩ := id cw
  obtain ⟨mk, methM, hnamed, hmethM, hstM, habM⟩ := Cond.instanceMethod_spec hin
  cases hn0.symm.trans hnamed
  cases hmY.symm.trans hmethM
  obtain ⟨c2, r2, m2, q1, q2, q3, q4, kP, hkP, hkPi⟩ := Cond.selects_spec hse
  cases hclB.symm.trans q1
  cases (State.methodFound?_of_named hnamed hy).symm.trans q2
  cases hnamed.symm.trans q3
  refine xc_site (ig := .invokevirtual index) hM cw hbl hPc hg (hsize.trans hml.symm) hW (by rw [hb]; exact hdg) hf ?_
  intro T mk' hT X hn'
  cases hnamed.symm.trans hn'
  exact X.invokevirtual hx ho hlink hnamed hmethM hstM hkP hkPi hy (a := b) (cell := cellB) (by rw [hT]; exact hcB)
    (fun z h => by rw [h] at hoB; cases hoB) (by rw [Launch.admits_selectMethod X.admits]; exact q4) hmethM habM hkP hkPi (g := g) hg (argsL := As) (rest := rest) (hn.trans (hlen _ hsig)) hstack (by rw [hb]; exact hdg)
theorem xc_runVN (S : CallFix p m c cc nL s args Ts own) (hM : xc_Met l y ws rm Pc Qc mc ms free) (cw : xc_B R s args y maxL ws rm mc ms n) (hlink : (Cond.methodLinkNest own index y host).before args s = true) (hin : (Cond.instanceMethod y).before args s = true) (hse : (Cond.selects C y y).before args s = true) (hp : PreV s H C b Pc As)
    (hg : g.method = m) (hn : As.length = n) (hsize : g.locals.size = nL) (hstack : g.stack = As.reverse ++ .ref b :: rest) (hW : 2 * g.monitorRoom + (rest.map fun v => v.category).sum ≤ 8) (hdg : decode cc g.pc = .ok (.invokevirtual index, 3)) (hf : cells + mc ≤ R.cells ∧ slots + ms ≤ R.slots) :
    xc_Run p l e R s m args below meth c H locs cells slots mc ms g rest (Qc (Value.ref b :: As).toArray) free := by
  obtain ⟨hx, hb, hml, ho, -⟩ := S
  obtain ⟨hbl, ⟨cellB, hcB, hoB, hclB⟩, hPc⟩ := hp
  obtain ⟨-, -, -, -, -, ⟨mk0, methY, cY, hn0, hmY, hcY, hlY, hsig⟩, -, hy, hlen⟩ := id cw
  obtain ⟨mk, methM, hnamed, hmethM, hstM, habM⟩ := Cond.instanceMethod_spec hin
  cases hn0.symm.trans hnamed
  cases hmY.symm.trans hmethM
  obtain ⟨c2, r2, m2, q1, q2, q3, q4, kP, hkP, hkPi⟩ := Cond.selects_spec hse
  cases hclB.symm.trans q1
  cases (State.methodFound?_of_named hnamed hy).symm.trans q2
  cases hnamed.symm.trans q3
  refine xc_site (ig := .invokevirtual index) hM cw hbl hPc hg (hsize.trans hml.symm) hW (by rw [hb]; exact hdg) hf ?_
  intro T mk' hT X hn'
  cases hnamed.symm.trans hn'
  exact X.invokevirtualNest hx ho hlink hnamed hmethM hstM hkP hkPi hy (a := b) (cell := cellB) (by rw [hT]; exact hcB)
    (fun z h => by rw [h] at hoB; cases hoB) (by rw [Launch.admits_selectMethod X.admits]; exact q4) hmethM habM hkP hkPi (g := g) hg (argsL := As) (rest := rest) (hn.trans (hlen _ hsig)) hstack (by rw [hb]; exact hdg)
theorem xc_runS (S : CallFix p m c cc nL s args Ts own) (hM : xc_Met l y ws rm Pc Qc mc ms free) (cw : xc_B R s args y maxL ws rm mc ms n) (hlink : (Cond.methodLink own index y).before args s = true) (hstt : (Cond.static y).before args s = true) (hp : PreS s H Pc As)
    (hg : g.method = m) (hn : As.length = n) (hsize : g.locals.size = nL) (hstack : g.stack = As.reverse ++ rest) (hW : 2 * g.monitorRoom + (rest.map fun v => v.category).sum ≤ 8) (hdg : decode cc g.pc = .ok (.invokestatic index, 3)) (hf : cells + mc ≤ R.cells ∧ slots + ms ≤ R.slots) :
    xc_Run p l e R s m args below meth c H locs cells slots mc ms g rest (Qc As.toArray) free := by
  obtain ⟨hx, hb, hml, ho, -⟩ := S
  obtain ⟨hbl, hPc⟩ := hp
  obtain ⟨-, -, -, -, -, ⟨mk0, methY, cY, hn0, hmY, hcY, hlY, hsig⟩, hini, hy, hlen⟩ := id cw
  have hstatic : methY.isStatic = true := Cond.static_spec hn0 hmY hstt
  obtain ⟨kP, hkP, -⟩ := className_of_methodNamed hn0
  have hinitP : kP.init = .initialized := Cond.initialized_spec (findClass_of_methodNamed hn0) hkP hini
  refine xc_site (ig := .invokestatic index) hM cw hbl hPc hg (hsize.trans hml.symm) hW (by rw [hb]; exact hdg) hf ?_
  intro T mk' hT X hn'
  cases hn0.symm.trans hn'
  exact X.invokestatic hx ho hlink hn0 hmY hstatic hkP hinitP hy (g := g) hg (argsL := As) (rest := rest) (hn.trans (hlen _ hsig)) hstack (by rw [hb]; exact hdg)
end XC2
