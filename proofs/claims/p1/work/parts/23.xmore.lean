/-! XC: a throw that is passed on, with room to spare -/
section XC7
variable {p : Program} {l : Launch} {e : Env} {R : Room} {s : State} {m : MethodId} {args : Array Value} {below : List Frame} {meth : Method} {c : Code} {H : Heap} {locs : List Loc} {cells slots : Nat} {Q : State → Prop}
theorem xc_TW.widen {g : JFrame} {x : Addr} {k n : Nat} (h1 : cells ≤ k) (h2 : slots ≤ n) (kk : xc_TW p l e R s m args below meth c H locs k n Q g x) : xc_TW p l e R s m args below meth c H locs cells slots Q g x := fun T hT X => kk T hT (stand_widen X h1 h2)
/-- passed on: what the callee threw is what this method throws -/
theorem xc_pass {S : Type} {post : Option Value → S → Prop} {thr : String → S → Prop} {B : S → State → Prop} {A : Nat → Prop} {x : Addr} {C : String} {u : S} {t : State} {pc : Nat} {ls : Array Slot} {st : List Value} (hlocks : meth.locks = false) (hno : ∀ z ∈ c.exceptionTable.toList, False) (ht : t.heap = H) (hvm : s.vm.Alike t.vm) (hex : xc_Ex C x t) (hthr : thr C u)
    (hB : ∀ t9 : State, t9.heap = H → s.WarmedH t9.vm → B u t9) (hS : va_S A s.heap H locs) :
    xc_TW p l e R s m args below meth c H locs cells slots (xc_MQ below (xc_Q post thr B A) args s cells slots A) (F0 m pc ls st) x :=
  xc_leave hlocks (fun z hz => absurd (hno z hz) id) (fun t9 h9 hW9 => ⟨Or.inr ⟨x, C, u, rfl, hthr, hex.moved (h9.trans ht.symm) (hvm.symm.trans hW9.alike), hB t9 h9 hW9⟩, hS.F h9⟩) hS.2.2
end XC7
