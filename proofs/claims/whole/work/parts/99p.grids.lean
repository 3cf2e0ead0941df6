/-! 99p.grids.lean.txt -/
/-- rows of arrays, the i-th at the address ad i -/
def gd (c : ClassId) (M : Nat) (ad : Nat → Nat) (R : Nat → Nat → Int32) (n : Nat) : va_W := (List.range n).map (fun i => (ad i, .inl (c, M, .inl (R i))))
theorem gd_len (c : ClassId) (M : Nat) (ad : Nat → Nat) (R : Nat → Nat → Int32) (n : Nat) : (gd c M ad R n).length = n := by
  unfold gd
  rw [List.length_map, List.length_range]
theorem gd_at {c : ClassId} {M : Nat} {ad : Nat → Nat} {R : Nat → Nat → Int32} {n i : Nat} (h : i < n) : (gd c M ad R n)[i]? = some (ad i, .inl (c, M, .inl (R i))) := by
  unfold gd
  rw [List.getElem?_map, List.getElem?_range h]
  rfl
theorem gd_set {c : ClassId} {M : Nat} {ad : Nat → Nat} {R : Nat → Nat → Int32} {n i : Nat} {r : Nat → Int32} (h : i < n) : (gd c M ad R n).set i (ad i, .inl (c, M, .inl r)) = gd c M ad (va_up R i r) n := by
  apply List.ext_getElem?
  intro j
  by_cases hj : j < n
  · rw [gd_at hj]
    by_cases e : j = i
    · subst e
      rw [List.getElem?_set_self (by rw [gd_len]; exact h), va_up_self]
    · rw [List.getElem?_set_ne (Ne.symm e), gd_at hj, va_up_ne _ _ e]
  · rw [List.getElem?_eq_none (by rw [List.length_set, gd_len]; omega), List.getElem?_eq_none (by rw [gd_len]; omega)]
theorem gd_push {c : ClassId} {M : Nat} {ad : Nat → Nat} {R : Nat → Nat → Int32} {n q : Nat} {r : Nat → Int32} : gd c M ad R n ++ [(q, .inl (c, M, .inl r))] = gd c M (va_up ad n q) (va_up R n r) (n + 1) := by
  unfold gd
  rw [List.range_succ, List.map_append]
  congr 1
  · apply List.map_congr_left
    intro j hj
    have hj : j ≠ n := Nat.ne_of_lt (List.mem_range.mp hj)
    rw [va_up_ne _ _ hj, va_up_ne _ _ hj]
  · simp only [List.map_cons, List.map_nil, va_up_self]
/-- the reference's arrays of arrays: addresses of the rows of edge, way, common, hashes; what they hold; how many hashes -/
def Gr : Type := (Nat → Nat) × (Nat → Nat) × (Nat → Nat) × (Nat → Nat) × (Nat → Nat → Int32) × (Nat → Nat → Int32) × (Nat → Nat → Int32) × (Nat → Nat → Int32) × Nat
def Gr.mk (ae aw ac ah : Nat → Nat) (E W C H : Nat → Nat → Int32) (n : Nat) : Gr := (ae, aw, ac, ah, E, W, C, H, n)
def Gr.ae (g : Gr) : Nat → Nat := g.1
def Gr.aw (g : Gr) : Nat → Nat := g.2.1
def Gr.ac (g : Gr) : Nat → Nat := g.2.2.1
def Gr.ah (g : Gr) : Nat → Nat := g.2.2.2.1
def Gr.E (g : Gr) : Nat → Nat → Int32 := g.2.2.2.2.1
def Gr.W (g : Gr) : Nat → Nat → Int32 := g.2.2.2.2.2.1
def Gr.C (g : Gr) : Nat → Nat → Int32 := g.2.2.2.2.2.2.1
def Gr.H (g : Gr) : Nat → Nat → Int32 := g.2.2.2.2.2.2.2.1
def Gr.n (g : Gr) : Nat := g.2.2.2.2.2.2.2.2
def Gr.sE (g : Gr) (i : Nat) (r : Nat → Int32) : Gr := Gr.mk g.ae g.aw g.ac g.ah (va_up g.E i r) g.W g.C g.H g.n
def Gr.sW (g : Gr) (i : Nat) (r : Nat → Int32) : Gr := Gr.mk g.ae g.aw g.ac g.ah g.E (va_up g.W i r) g.C g.H g.n
def Gr.sC (g : Gr) (i : Nat) (r : Nat → Int32) : Gr := Gr.mk g.ae g.aw g.ac g.ah g.E g.W (va_up g.C i r) g.H g.n
def Gr.sH (g : Gr) (i : Nat) (r : Nat → Int32) : Gr := Gr.mk g.ae g.aw g.ac g.ah g.E g.W g.C (va_up g.H i r) g.n
def Gr.pH (g : Gr) (q : Nat) (r : Nat → Int32) : Gr := Gr.mk g.ae g.aw g.ac (va_up g.ah g.n q) g.E g.W g.C (va_up g.H g.n r) (g.n + 1)
/-- all of them, as a part of a world -/
def gdA (cI cB cZ : ClassId) (g : Gr) : va_W := gd cZ 400 g.ae g.E 400 ++ (gd cZ 400 g.aw g.W 400 ++ (gd cI 202 g.ac g.C 202 ++ gd cB 32 g.ah g.H g.n))
section GDA
variable {cI cB cZ : ClassId} {g : Gr} {X : va_W} {n i : Nat} {r : Nat → Int32}
theorem gA_E (hn : X.length = n) (hi : i < 400) : (X ++ gdA cI cB cZ g)[n + i]? = some (g.ae i, .inl (cZ, 400, .inl (g.E i))) := by
  subst hn
  rw [List.getElem?_append_right (by omega), Nat.add_sub_cancel_left]
  unfold gdA
  rw [List.getElem?_append_left (by rw [gd_len]; exact hi), gd_at hi]
theorem gA_W (hn : X.length = n) (hi : i < 400) : (X ++ gdA cI cB cZ g)[n + (400 + i)]? = some (g.aw i, .inl (cZ, 400, .inl (g.W i))) := by
  subst hn
  rw [List.getElem?_append_right (by omega), Nat.add_sub_cancel_left]
  unfold gdA
  rw [List.getElem?_append_right (by rw [gd_len]; omega), gd_len, Nat.add_sub_cancel_left, List.getElem?_append_left (by rw [gd_len]; exact hi), gd_at hi]
theorem gA_C (hn : X.length = n) (hi : i < 202) : (X ++ gdA cI cB cZ g)[n + (800 + i)]? = some (g.ac i, .inl (cI, 202, .inl (g.C i))) := by
  subst hn
  rw [List.getElem?_append_right (by omega), Nat.add_sub_cancel_left]
  unfold gdA
  rw [List.getElem?_append_right (by rw [gd_len]; omega), gd_len, List.getElem?_append_right (by rw [gd_len]; omega), gd_len, show 800 + i - 400 - 400 = i by omega, List.getElem?_append_left (by rw [gd_len]; exact hi), gd_at hi]
theorem gA_H (hn : X.length = n) (hi : i < g.n) : (X ++ gdA cI cB cZ g)[n + (1002 + i)]? = some (g.ah i, .inl (cB, 32, .inl (g.H i))) := by
  subst hn
  rw [List.getElem?_append_right (by omega), Nat.add_sub_cancel_left]
  unfold gdA
  rw [List.getElem?_append_right (by rw [gd_len]; omega), gd_len, List.getElem?_append_right (by rw [gd_len]; omega), gd_len, List.getElem?_append_right (by rw [gd_len]; omega), gd_len, show 1002 + i - 400 - 400 - 202 = i by omega, gd_at hi]
theorem gA_sE (hn : X.length = n) (hi : i < 400) : (X ++ gdA cI cB cZ g).set (n + i) (g.ae i, .inl (cZ, 400, .inl r)) = X ++ gdA cI cB cZ (g.sE i r) := by
  subst hn
  rw [List.set_append_right _ _ (by omega), Nat.add_sub_cancel_left]
  congr 1
  unfold gdA
  rw [List.set_append_left _ _ (by rw [gd_len]; exact hi), gd_set hi]
  rfl
theorem gA_sW (hn : X.length = n) (hi : i < 400) : (X ++ gdA cI cB cZ g).set (n + (400 + i)) (g.aw i, .inl (cZ, 400, .inl r)) = X ++ gdA cI cB cZ (g.sW i r) := by
  subst hn
  rw [List.set_append_right _ _ (by omega), Nat.add_sub_cancel_left]
  congr 1
  unfold gdA
  rw [List.set_append_right _ _ (by rw [gd_len]; omega), gd_len, Nat.add_sub_cancel_left, List.set_append_left _ _ (by rw [gd_len]; exact hi), gd_set hi]
  rfl
theorem gA_sC (hn : X.length = n) (hi : i < 202) : (X ++ gdA cI cB cZ g).set (n + (800 + i)) (g.ac i, .inl (cI, 202, .inl r)) = X ++ gdA cI cB cZ (g.sC i r) := by
  subst hn
  rw [List.set_append_right _ _ (by omega), Nat.add_sub_cancel_left]
  congr 1
  unfold gdA
  rw [List.set_append_right _ _ (by rw [gd_len]; omega), gd_len, List.set_append_right _ _ (by rw [gd_len]; omega), gd_len, show 800 + i - 400 - 400 = i by omega, List.set_append_left _ _ (by rw [gd_len]; exact hi), gd_set hi]
  rfl
theorem gA_sH (hn : X.length = n) (hi : i < g.n) : (X ++ gdA cI cB cZ g).set (n + (1002 + i)) (g.ah i, .inl (cB, 32, .inl r)) = X ++ gdA cI cB cZ (g.sH i r) := by
  subst hn
  rw [List.set_append_right _ _ (by omega), Nat.add_sub_cancel_left]
  congr 1
  unfold gdA
  rw [List.set_append_right _ _ (by rw [gd_len]; omega), gd_len, List.set_append_right _ _ (by rw [gd_len]; omega), gd_len, List.set_append_right _ _ (by rw [gd_len]; omega), gd_len, show 1002 + i - 400 - 400 - 202 = i by omega, gd_set hi]
  rfl
theorem gA_pH {q : Nat} : (X ++ gdA cI cB cZ g) ++ [(q, .inl (cB, 32, .inl r))] = X ++ gdA cI cB cZ (g.pH q r) := by
  rw [List.append_assoc]
  refine congrArg (fun z => X ++ z) ?_
  unfold gdA
  rw [List.append_assoc, List.append_assoc, List.append_assoc, gd_push]
  rfl
end GDA
/-- a world without its second part -/
theorem xd_P {D : va_G} {cl : List vw_C} {a b : va_W} {H : Heap} (h : va_P D cl (a ++ b) H) : va_P D cl a H := fun k q hk => h k q (by rw [List.getElem?_append_left (List.getElem?_eq_some_iff.mp hk).1]; exact hk)
theorem xd_D {A : Nat → Prop} {a b : va_W} (h : va_D A (a ++ b)) : va_D A a := by
  have e : ∀ (k : Nat) (q : Nat × va_E), a[k]? = some q → (a ++ b)[k]? = some q := fun k q hk => by rw [List.getElem?_append_left (List.getElem?_eq_some_iff.mp hk).1]; exact hk
  exact ⟨fun i j p q hi hj hpq => h.1 i j p q (e i p hi) (e j q hj) hpq, fun k q hk => h.2 k q (e k q hk)⟩
theorem xd_F {A0 : Nat → Prop} {a b : va_W} {z : Nat} (h : ∀ q, va_A (a ++ b) z q → A0 q) : ∀ q, va_A a z q → A0 q := by
  intro q hq
  rcases hq with ⟨k, e, hk⟩ | hq
  · exact h q (Or.inl ⟨k, e, by rw [List.getElem?_append_left (List.getElem?_eq_some_iff.mp hk).1]; exact hk⟩)
  · exact h q (Or.inr hq)
section XQA
variable {p : Program} {l : Launch} {e : Env} {R : Room} {s : State} {m : MethodId} {args : Array Value} {below : List Frame} {meth : Method} {c : Code} {H : Heap} {locs : List Loc} {cells slots : Nat} {Q : State → Prop}
variable {cc : ByteArray} {pc : Nat} {ls : Array Slot} {rest : List Value} {D : va_G} {cl : List vw_C} {A : Nat → Prop} {a : Nat} {tys : List (ClassId × FieldType)} {ws : va_W} {H0 : Heap}
/-- a row of an array of arrays -/
theorem xq_ald (hexec : p.tables.exec = Jvm.exec) (hb : c.code = cc) (hK : va_K D cl tys s) (hP : va_P D cl ws H) (q0 t0 : Nat) {cA : ClassId} {t : FieldType} {n y : Nat} {f : Nat → Option Nat} (ha : ws[q0]? = some (a, .inl (cA, n, .inr (.inr (.inr (.inr f)))))) (ht : tys[t0]? = some (cA, .array t)) {i : Int32} (hin : vp_in i n) (hy : f i.toNatClampNeg = some y) (hdg : decode cc pc = .ok (.aaload, 1))
    (kk : W p l e R s m args below meth c H locs cells slots Q (F0 m (pc + 1) ls (.ref y :: rest))) : W p l e R s m args below meth c H locs cells slots Q (F0 m pc ls (.int i :: .ref a :: rest)) := by
  have hlt : i.toNatClampNeg < n := Nat.not_le.mp fun q => hin (Or.inr q)
  exact W.aald (v := .ref y) (ty := .array t) hexec hb (hP q0 _ ha) ((hK.2 t0 _ ht).1 n (fun j => va_rf (f j))) rfl (fun q => by cases q) (by show ¬ (i < 0 ∨ (arrV _ _ _).slots.size ≤ _); rw [arrV_size]; exact hin) (by show (arrV _ _ _).slots[_]? = _; rw [arrV_read _ _ hlt, hy]; rfl) rfl rfl hdg kk
end XQA

