/-! 15.sha3.lean.txt -/
theorem gw_843 : (Jvm.Cond.methodLink "PatchStore$Sha256" (32 : Nat) ({ cls := "PatchStore$Sha256", name := "put", desc := "(B)V" } : Jvm.MethodName)) ∈ xg_1 := xg_s4 123 rfl rfl
theorem gw_845 : (Jvm.Cond.instanceMethod ({ cls := "PatchStore$Sha256", name := "put", desc := "(B)V" } : Jvm.MethodName)) ∈ xg_1 := xg_s4 125 rfl rfl
theorem gw_846 : (Jvm.Cond.code ({ cls := "PatchStore$Sha256", name := "put", desc := "(B)V" } : Jvm.MethodName) prog_9_method_5_code (2 : Nat) (Option.none : Option Jvm.ClassFile.FieldType)) ∈ xg_1 := xg_s4 126 rfl rfl
theorem gw_861 : (Jvm.Cond.constantLong "PatchStore$Sha256" (36 : Nat) (8 : Int64)) ∈ xg_1 := xg_s4 141 rfl rfl
def y_Sh_take : MethodName := ⟨"PatchStore$Sha256", "take", "([BII)V"⟩
abbrev c_Sh_take : Cond := (Jvm.Cond.code ({ cls := "PatchStore$Sha256", name := "take", desc := "([BII)V" } : Jvm.MethodName) prog_9_method_3_code (5 : Nat) (Option.none : Option Jvm.ClassFile.FieldType))
abbrev ws_Sh_take : List Cond := c_Sh_take :: xg_1
theorem d_Sh_take_0 : decode prog_9_method_3_code 0 = .ok (.iconst 0, 1) := by decide +kernel
theorem d_Sh_take_1 : decode prog_9_method_3_code 1 = .ok (.istore 4, 2) := by decide +kernel
theorem d_Sh_take_3 : decode prog_9_method_3_code 3 = .ok (.iload 4, 2) := by decide +kernel
theorem d_Sh_take_5 : decode prog_9_method_3_code 5 = .ok (.iload_n 3, 1) := by decide +kernel
theorem d_Sh_take_6 : decode prog_9_method_3_code 6 = .ok (.if_icmp .ge 19, 3) := by decide +kernel
theorem d_Sh_take_9 : decode prog_9_method_3_code 9 = .ok (.aload_n 0, 1) := by decide +kernel
theorem d_Sh_take_10 : decode prog_9_method_3_code 10 = .ok (.aload_n 1, 1) := by decide +kernel
theorem d_Sh_take_11 : decode prog_9_method_3_code 11 = .ok (.iload_n 2, 1) := by decide +kernel
theorem d_Sh_take_12 : decode prog_9_method_3_code 12 = .ok (.iload 4, 2) := by decide +kernel
theorem d_Sh_take_14 : decode prog_9_method_3_code 14 = .ok (.iadd, 1) := by decide +kernel
theorem d_Sh_take_15 : decode prog_9_method_3_code 15 = .ok (.baload, 1) := by decide +kernel
theorem d_Sh_take_16 : decode prog_9_method_3_code 16 = .ok (.invokevirtual 32, 3) := by decide +kernel
theorem d_Sh_take_19 : decode prog_9_method_3_code 19 = .ok (.iinc 4 1, 3) := by decide +kernel
theorem d_Sh_take_22 : decode prog_9_method_3_code 22 = .ok (.goto (-19), 3) := by decide +kernel
theorem d_Sh_take_25 : decode prog_9_method_3_code 25 = .ok (.aload_n 0, 1) := by decide +kernel
theorem d_Sh_take_26 : decode prog_9_method_3_code 26 = .ok (.dup, 1) := by decide +kernel
theorem d_Sh_take_27 : decode prog_9_method_3_code 27 = .ok (.getfield 29, 3) := by decide +kernel
theorem d_Sh_take_30 : decode prog_9_method_3_code 30 = .ok (.iload_n 3, 1) := by decide +kernel
theorem d_Sh_take_31 : decode prog_9_method_3_code 31 = .ok (.iadd, 1) := by decide +kernel
theorem d_Sh_take_32 : decode prog_9_method_3_code 32 = .ok (.putfield 29, 3) := by decide +kernel
theorem d_Sh_take_35 : decode prog_9_method_3_code 35 = .ok (.return_, 1) := by decide +kernel
def y_Sh_finish : MethodName := ⟨"PatchStore$Sha256", "finish", "([BI)V"⟩
abbrev c_Sh_finish : Cond := (Jvm.Cond.code ({ cls := "PatchStore$Sha256", name := "finish", desc := "([BI)V" } : Jvm.MethodName) prog_9_method_4_code (6 : Nat) (Option.none : Option Jvm.ClassFile.FieldType))
abbrev ws_Sh_finish : List Cond := c_Sh_finish :: xg_1
theorem d_Sh_finish_0 : decode prog_9_method_4_code 0 = .ok (.aload_n 0, 1) := by decide +kernel
theorem d_Sh_finish_1 : decode prog_9_method_4_code 1 = .ok (.bipush (-128), 2) := by decide +kernel
theorem d_Sh_finish_3 : decode prog_9_method_4_code 3 = .ok (.invokevirtual 32, 3) := by decide +kernel
theorem d_Sh_finish_6 : decode prog_9_method_4_code 6 = .ok (.iconst 0, 1) := by decide +kernel
theorem d_Sh_finish_7 : decode prog_9_method_4_code 7 = .ok (.istore_n 3, 1) := by decide +kernel
theorem d_Sh_finish_8 : decode prog_9_method_4_code 8 = .ok (.iload_n 3, 1) := by decide +kernel
theorem d_Sh_finish_9 : decode prog_9_method_4_code 9 = .ok (.bipush 64, 2) := by decide +kernel
theorem d_Sh_finish_11 : decode prog_9_method_4_code 11 = .ok (.if_icmp .ge 23, 3) := by decide +kernel
theorem d_Sh_finish_14 : decode prog_9_method_4_code 14 = .ok (.aload_n 0, 1) := by decide +kernel
theorem d_Sh_finish_15 : decode prog_9_method_4_code 15 = .ok (.getfield 25, 3) := by decide +kernel
theorem d_Sh_finish_18 : decode prog_9_method_4_code 18 = .ok (.bipush 56, 2) := by decide +kernel
theorem d_Sh_finish_20 : decode prog_9_method_4_code 20 = .ok (.if_icmp .eq 14, 3) := by decide +kernel
theorem d_Sh_finish_23 : decode prog_9_method_4_code 23 = .ok (.aload_n 0, 1) := by decide +kernel
theorem d_Sh_finish_24 : decode prog_9_method_4_code 24 = .ok (.iconst 0, 1) := by decide +kernel
theorem d_Sh_finish_25 : decode prog_9_method_4_code 25 = .ok (.invokevirtual 32, 3) := by decide +kernel
theorem d_Sh_finish_28 : decode prog_9_method_4_code 28 = .ok (.iinc 3 1, 3) := by decide +kernel
theorem d_Sh_finish_31 : decode prog_9_method_4_code 31 = .ok (.goto (-23), 3) := by decide +kernel
theorem d_Sh_finish_34 : decode prog_9_method_4_code 34 = .ok (.aload_n 0, 1) := by decide +kernel
theorem d_Sh_finish_35 : decode prog_9_method_4_code 35 = .ok (.getfield 29, 3) := by decide +kernel
theorem d_Sh_finish_38 : decode prog_9_method_4_code 38 = .ok (.i2l, 1) := by decide +kernel
theorem d_Sh_finish_39 : decode prog_9_method_4_code 39 = .ok (.ldc2_w 36, 3) := by decide +kernel
theorem d_Sh_finish_42 : decode prog_9_method_4_code 42 = .ok (.lmul, 1) := by decide +kernel
theorem d_Sh_finish_43 : decode prog_9_method_4_code 43 = .ok (.lstore_n 3, 1) := by decide +kernel
theorem d_Sh_finish_44 : decode prog_9_method_4_code 44 = .ok (.bipush 56, 2) := by decide +kernel
theorem d_Sh_finish_46 : decode prog_9_method_4_code 46 = .ok (.istore 5, 2) := by decide +kernel
theorem d_Sh_finish_48 : decode prog_9_method_4_code 48 = .ok (.iload 5, 2) := by decide +kernel
theorem d_Sh_finish_50 : decode prog_9_method_4_code 50 = .ok (.ifCond .lt 19, 3) := by decide +kernel
theorem d_Sh_finish_53 : decode prog_9_method_4_code 53 = .ok (.aload_n 0, 1) := by decide +kernel
theorem d_Sh_finish_54 : decode prog_9_method_4_code 54 = .ok (.lload_n 3, 1) := by decide +kernel
theorem d_Sh_finish_55 : decode prog_9_method_4_code 55 = .ok (.iload 5, 2) := by decide +kernel
theorem d_Sh_finish_57 : decode prog_9_method_4_code 57 = .ok (.lshr, 1) := by decide +kernel
theorem d_Sh_finish_58 : decode prog_9_method_4_code 58 = .ok (.l2i, 1) := by decide +kernel
theorem d_Sh_finish_59 : decode prog_9_method_4_code 59 = .ok (.i2b, 1) := by decide +kernel
theorem d_Sh_finish_60 : decode prog_9_method_4_code 60 = .ok (.invokevirtual 32, 3) := by decide +kernel
theorem d_Sh_finish_63 : decode prog_9_method_4_code 63 = .ok (.iinc 5 (-8), 3) := by decide +kernel
theorem d_Sh_finish_66 : decode prog_9_method_4_code 66 = .ok (.goto (-18), 3) := by decide +kernel
theorem d_Sh_finish_69 : decode prog_9_method_4_code 69 = .ok (.iconst 0, 1) := by decide +kernel
theorem d_Sh_finish_70 : decode prog_9_method_4_code 70 = .ok (.istore 5, 2) := by decide +kernel
theorem d_Sh_finish_72 : decode prog_9_method_4_code 72 = .ok (.iload 5, 2) := by decide +kernel
theorem d_Sh_finish_74 : decode prog_9_method_4_code 74 = .ok (.bipush 32, 2) := by decide +kernel
theorem d_Sh_finish_76 : decode prog_9_method_4_code 76 = .ok (.if_icmp .ge 36, 3) := by decide +kernel
theorem d_Sh_finish_79 : decode prog_9_method_4_code 79 = .ok (.aload_n 1, 1) := by decide +kernel
theorem d_Sh_finish_80 : decode prog_9_method_4_code 80 = .ok (.iload_n 2, 1) := by decide +kernel
theorem d_Sh_finish_81 : decode prog_9_method_4_code 81 = .ok (.iload 5, 2) := by decide +kernel
theorem d_Sh_finish_83 : decode prog_9_method_4_code 83 = .ok (.iadd, 1) := by decide +kernel
theorem d_Sh_finish_84 : decode prog_9_method_4_code 84 = .ok (.aload_n 0, 1) := by decide +kernel
theorem d_Sh_finish_85 : decode prog_9_method_4_code 85 = .ok (.getfield 9, 3) := by decide +kernel
theorem d_Sh_finish_88 : decode prog_9_method_4_code 88 = .ok (.iload 5, 2) := by decide +kernel
theorem d_Sh_finish_90 : decode prog_9_method_4_code 90 = .ok (.iconst 4, 1) := by decide +kernel
theorem d_Sh_finish_91 : decode prog_9_method_4_code 91 = .ok (.idiv, 1) := by decide +kernel
theorem d_Sh_finish_92 : decode prog_9_method_4_code 92 = .ok (.iaload, 1) := by decide +kernel
theorem d_Sh_finish_93 : decode prog_9_method_4_code 93 = .ok (.bipush 24, 2) := by decide +kernel
theorem d_Sh_finish_95 : decode prog_9_method_4_code 95 = .ok (.bipush 8, 2) := by decide +kernel
theorem d_Sh_finish_97 : decode prog_9_method_4_code 97 = .ok (.iload 5, 2) := by decide +kernel
theorem d_Sh_finish_99 : decode prog_9_method_4_code 99 = .ok (.iconst 4, 1) := by decide +kernel
theorem d_Sh_finish_100 : decode prog_9_method_4_code 100 = .ok (.irem, 1) := by decide +kernel
theorem d_Sh_finish_101 : decode prog_9_method_4_code 101 = .ok (.imul, 1) := by decide +kernel
theorem d_Sh_finish_102 : decode prog_9_method_4_code 102 = .ok (.isub, 1) := by decide +kernel
theorem d_Sh_finish_103 : decode prog_9_method_4_code 103 = .ok (.ishr, 1) := by decide +kernel
theorem d_Sh_finish_104 : decode prog_9_method_4_code 104 = .ok (.i2b, 1) := by decide +kernel
theorem d_Sh_finish_105 : decode prog_9_method_4_code 105 = .ok (.bastore, 1) := by decide +kernel
theorem d_Sh_finish_106 : decode prog_9_method_4_code 106 = .ok (.iinc 5 1, 3) := by decide +kernel
theorem d_Sh_finish_109 : decode prog_9_method_4_code 109 = .ok (.goto (-37), 3) := by decide +kernel
theorem d_Sh_finish_112 : decode prog_9_method_4_code 112 = .ok (.return_, 1) := by decide +kernel
abbrev sh_S : Type := (Nat → Int32) × (Nat → Int32) × Nat
/-- one byte more: sums, block, filled -/
def sh_put1 (x : Int32) (s : sh_S) : sh_S := if s.2.2 + 1 < 64 then (s.1, upd s.2.1 s.2.2 x, s.2.2 + 1) else (sh_comp s.1 (upd s.2.1 s.2.2 x), upd s.2.1 s.2.2 x, 0)
theorem sh_put_of {f b : Nat → Int32} {w : Nat → Int32} {F : Nat} {x : Int32} {u : (Nat → Int32) × (Nat → Int32) × (Nat → Int32) × Nat} (h : (F + 1 < 64 ∧ u = (f, w, upd b F x, F + 1)) ∨ (F + 1 = 64 ∧ ∃ w1, u = (sh_comp f (upd b F x), w1, upd b F x, 0))) : sh_put1 x (f, b, F) = (u.1, u.2.2.1, u.2.2.2) ∧ u.2.2.2 < 64 := by
  rcases h with ⟨h1, rfl⟩ | ⟨h1, w1, rfl⟩
  · exact ⟨by unfold sh_put1; rw [if_pos h1], h1⟩
  · exact ⟨by unfold sh_put1; rw [if_neg (show ¬ F + 1 < 64 by omega)], (by show (0 : Nat) < 64; decide)⟩
/-- m bytes of g from a on -/
def sh_puts (g : Nat → Int32) (a : Nat) : Nat → sh_S → sh_S
  | 0, s => s
  | m + 1, s => sh_put1 (g (a + m)) (sh_puts g a m s)
def sh_zeros : Nat → sh_S → sh_S
  | 0, s => s
  | m + 1, s => sh_put1 0 (sh_zeros m s)
theorem sh_put1_F (x : Int32) (s : sh_S) (h : s.2.2 < 64) : (sh_put1 x s).2.2 = (s.2.2 + 1) % 64 := by
  unfold sh_put1
  split
  · rename_i h1; show s.2.2 + 1 = _; rw [Nat.mod_eq_of_lt h1]
  · rename_i h1; show 0 = _; rw [show s.2.2 + 1 = 64 by omega]
theorem sh_zeros_F (s : sh_S) (h : s.2.2 < 64) : ∀ m, (sh_zeros m s).2.2 = (s.2.2 + m) % 64 := by
  intro m
  induction m with
  | zero => show s.2.2 = _; rw [Nat.add_zero, Nat.mod_eq_of_lt h]
  | succ m ih =>
    show (sh_put1 0 (sh_zeros m s)).2.2 = _
    rw [sh_put1_F 0 _ (by rw [ih]; exact Nat.mod_lt _ (by decide)), ih]; omega
/-- how many zeros until 56 are there -/
def sh_z (F : Nat) : Nat := (120 - F) % 64
def sh_lenb (tk : Int32) (k : Nat) : Int32 := (((tk.toInt64 * 8) >>> ((nI (56 - 8 * k)).toInt64 &&& 63)).toInt32).toInt8.toInt32
def sh_lens (tk : Int32) : Nat → sh_S → sh_S
  | 0, s => s
  | m + 1, s => sh_put1 (sh_lenb tk m) (sh_lens tk m s)
/-- the padding of a message of tk bytes -/
def sh_fin (tk : Int32) (s : sh_S) : sh_S := sh_lens tk 8 (sh_zeros (sh_z (sh_put1 (-128) s).2.2) (sh_put1 (-128) s))
def sh_outb (f : Nat → Int32) (k : Nat) : Int32 := ((f (k / 4)) >>> (((24 : Int32) - 8 * nI (k % 4)) &&& 31)).toInt8.toInt32
def sh_out (f : Nat → Int32) (a m : Nat) (g : Nat → Int32) : Nat → Int32 := fun j => if a ≤ j ∧ j < a + m then sh_outb f (j - a) else g j
theorem sh_out_s {f : Nat → Int32} {a m : Nat} {g : Nat → Int32} : upd (sh_out f a m g) (a + m) (sh_outb f m) = sh_out f a (m + 1) g := by
  funext j
  by_cases e : j = a + m
  · subst e; rw [pk_us]; unfold sh_out; rw [if_pos (by omega), Nat.add_sub_cancel_left]
  · rw [pk_un e]; unfold sh_out
    by_cases h : a ≤ j ∧ j < a + m
    · rw [if_pos h, if_pos (by omega)]
    · rw [if_neg h, if_neg (by omega)]
theorem sh_out_0 {f : Nat → Int32} {a : Nat} {g : Nat → Int32} : sh_out f a 0 g = g := by
  funext j; unfold sh_out; rw [if_neg (by omega)]
theorem sh_z_lt (F : Nat) : sh_z F < 64 := Nat.mod_lt _ (by decide)
theorem sh_z_at {F k : Nat} (hF : F < 64) (hk : k ≤ sh_z F) (h : (F + k) % 64 = 56) : k = sh_z F := by unfold sh_z at *; omega
theorem sh_z_on {F k : Nat} (hF : F < 64) (hk : k ≤ sh_z F) (h : ¬ (F + k) % 64 = 56) : k + 1 ≤ sh_z F := by unfold sh_z at *; omega
def sh_shx (m : Nat) (x : Int32) : Prop := (m ≤ 7 ∧ x = nI (56 - 8 * m)) ∨ (m = 8 ∧ x = -8)
theorem sh_shx_s {m : Nat} {x : Int32} (h : sh_shx m x) (hx : ¬ x < 0) : sh_shx (m + 1) (x + (-8)) := by
  rcases h with ⟨h1, rfl⟩ | ⟨h1, rfl⟩
  · rcases (show m = 0 ∨ m = 1 ∨ m = 2 ∨ m = 3 ∨ m = 4 ∨ m = 5 ∨ m = 6 ∨ m = 7 by omega) with rfl | rfl | rfl | rfl | rfl | rfl | rfl | rfl <;> first | exact Or.inl ⟨by decide, by decide⟩ | exact Or.inr ⟨by decide, by decide⟩
  · exact absurd (by decide) hx
theorem sh_shx_e {m : Nat} {x : Int32} (h : sh_shx m x) (hx : x < 0) : m = 8 := by
  rcases h with ⟨h1, rfl⟩ | ⟨h1, rfl⟩
  · exact absurd hx (nI_pos (by omega))
  · exact h1
theorem sh_shx_n {m : Nat} {x : Int32} (h : sh_shx m x) (hx : ¬ x < 0) : m ≤ 7 ∧ x = nI (56 - 8 * m) := by
  rcases h with h | ⟨h1, rfl⟩
  · exact h
  · exact absurd (by decide) hx
set_option maxHeartbeats 4000000 in
set_option maxRecDepth 100000 in
/-- Sha256.take -/
theorem m_Sh_take (l : Launch) (dC : Nat → ClassId) (dI : Nat → Nat → Nat) (cI cB cL cZ cR : ClassId) (h sm wd bl sc : Nat) (f0 w0 b0 : Nat → Int32) (Fz : Nat) (tk : Int32) (N a M : Nat) (g : Nat → Int32) (sz : Nat) (hFz : Fz < 64) (hN : N < 2 ^ 31) (haM : a + M ≤ N) (hg : ∀ j, j < N → vp_nar .byte (g j) = g j) : Met l y_Sh_take ws_Sh_take ({ frames := 2, cells := 0, slots := 0, locals := 100 }) (xw_Px dC dI [(cI, .int), (cB, .byte), (cL, .long), (cZ, .boolean), (cR, .object "PatchStore$Repository")] [.ref h, .ref sc, .int (nI a), .int (nI M)] [(h, .inr (8, [.ref sm, .ref wd, .ref bl, .int (nI Fz), .int tk])), (sm, .inl (cI, 8, .inl f0)), (wd, .inl (cI, 64, .inl w0)), (bl, .inl (cB, 64, .inl b0)), (sc, .inl (cB, N, .inl g))] sz) (va_Qv (fun u : (Nat → Int32) × (Nat → Int32) × (Nat → Int32) × Nat => sh_puts g a M (f0, b0, Fz) = (u.1, u.2.2.1, u.2.2.2) ∧ u.2.2.2 < 64) (fun u t => xw_B dC dI [(cI, .int), (cB, .byte), (cL, .long), (cZ, .boolean), (cR, .object "PatchStore$Repository")] (va_A [(h, .inr (8, [.ref sm, .ref wd, .ref bl, .int (nI Fz), .int tk])), (sm, .inl (cI, 8, .inl f0)), (wd, .inl (cI, 64, .inl w0)), (bl, .inl (cB, 64, .inl b0)), (sc, .inl (cB, N, .inl g))] sz) [(h, .inr (8, [.ref sm, .ref wd, .ref bl, .int (nI u.2.2.2), .int (tk + nI M)])), (sm, .inl (cI, 8, .inl u.1)), (wd, .inl (cI, 64, .inl u.2.1)), (bl, .inl (cB, 64, .inl u.2.2.1)), (sc, .inl (cB, N, .inl g))] t) (va_A [(h, .inr (8, [.ref sm, .ref wd, .ref bl, .int (nI Fz), .int tk])), (sm, .inl (cI, 8, .inl f0)), (wd, .inl (cI, 64, .inl w0)), (bl, .inl (cB, 64, .inl b0)), (sc, .inl (cB, N, .inl g))] sz)) 0 0 (va_A [(h, .inr (8, [.ref sm, .ref wd, .ref bl, .int (nI Fz), .int tk])), (sm, .inl (cI, 8, .inl f0)), (wd, .inl (cI, 64, .inl w0)), (bl, .inl (cB, 64, .inl b0)), (sc, .inl (cB, N, .inl g))] sz) := by
  refine Met.ofW (cc := prog_9_method_3_code) (maxL := 5) (ret := none) (by decide) rfl ?_
  intro p e s m args below meth c s₁ B hml hv
  obtain ⟨rfl, hsz, hP, hK, hD0, hN, hTh⟩ := hv
  have hx := B.exec
  have hb := B.bytes
  have hr := B.returns
  have hts0 := atoms_spec (ws := ws_Sh_take) B.pre
  have hts : ∀ w ∈ xg_1, w.before _ s = true := fun w h => hts0 w (List.mem_cons_of_mem _ h)
  have hown : s.vm.findClass "PatchStore$Sha256" = some m.cls := findClass_of_methodNamed B.named
  have hlocks := B.notSynchronized
  subst hsz
  have hD := hD0.self (sz := s.heap.size)
  generalize hAe : va_A [(h, .inr (8, [.ref sm, .ref wd, .ref bl, .int (nI Fz), .int tk])), (sm, .inl (cI, 8, .inl f0)), (wd, .inl (cI, 64, .inl w0)), (bl, .inl (cB, 64, .inl b0)), (sc, .inl (cB, N, .inl g))] s.heap.size = A at hD hTh ⊢
  have hA : ∀ q : Nat, s.heap.size ≤ q → A q := fun q h => by rw [← hAe]; exact Or.inr h
  have hS : va_S A s.heap s.heap [] := va_S.rf
  have hl := lv_entry ([.ref h, .ref sc, .int (nI a), .int (nI M)]) (n := 5) (Nat.le_of_ble_eq_true rfl)
  rw [lg_entry_eq]
  generalize (lg_sl ([.ref h, .ref sc, .int (nI a), .int (nI M)]) ++ List.replicate (5 - (lg_sl ([.ref h, .ref sc, .int (nI a), .int (nI M)])).length) Slot.unset).toArray = ls at hl ⊢
  have hl : lv_has ls 5 [(0, .ref h), (1, .ref sc), (2, .int (nI a)), (3, .int (nI M))] := hl
  generalize hQe : MQ _ _ _ _ _ _ _ = Q
  refine lv_iconst (v := 0) hx hb d_Sh_take_0 (by decide) ?_
  refine lv_istore (lv' := [(4, .int 0), (0, .ref h), (1, .ref sc), (2, .int (nI a)), (3, .int (nI M))]) hx hb d_Sh_take_1 hl (by decide) rfl (fun ls hl => ?_)
  have loop_3 : ∀ (n : Nat) (k : Nat) (f : Nat → Int32) (w : Nat → Int32) (b : Nat → Int32) (F : Nat) (H : Heap) (locs : List Loc) (ls : Array Slot), M - k < n → (k ≤ M) → (F < 64) → (sh_puts g a k (f0, b0, Fz) = (f, b, F)) → va_P (dC, dI) classes [(h, .inr (8, [.ref sm, .ref wd, .ref bl, .int (nI F), .int tk])), (sm, .inl (cI, 8, .inl f)), (wd, .inl (cI, 64, .inl w)), (bl, .inl (cB, 64, .inl b)), (sc, .inl (cB, N, .inl g))] H → va_D A [(h, .inr (8, [.ref sm, .ref wd, .ref bl, .int (nI F), .int tk])), (sm, .inl (cI, 8, .inl f)), (wd, .inl (cI, 64, .inl w)), (bl, .inl (cB, 64, .inl b)), (sc, .inl (cB, N, .inl g))] → va_S A s.heap H locs → lv_has ls 5 [(0, .ref h), (1, .ref sc), (2, .int (nI a)), (3, .int (nI M)), (4, .int (nI k))] → W p l e (headSpec ws_Sh_take ({ frames := 2, cells := 0, slots := 0, locals := 100 })).room s m ([.ref h, .ref sc, .int (nI a), .int (nI M)] : List Value).toArray below meth c H locs 0 0 Q (F0 m 3 ls []) := by
    intro n
    induction n with
    | zero => intro k f w b F H locs ls hm; exact absurd hm (Nat.not_lt_zero _)
    | succ n ih_3 =>
      intro k f w b F H locs ls hm hk hF hs hP hD hS hl
      refine lv_iload hx hb d_Sh_take_3 (lv_at hl 4 rfl) ?_
      refine lv_iload_n hx hb d_Sh_take_5 rfl (lv_at hl 3 rfl) ?_
      refine lv_icmp_ge (tgt := 25) hx hb d_Sh_take_6 (by decide) (fun c_6 => ?_) (fun c_6 => ?_)
      · have hk9 : k = M := by have := (nI_leI (a := M) (b := k) (by omega) (by omega)).mp c_6; omega
        rw [hk9] at hs
        refine lv_aload_n hx hb d_Sh_take_25 rfl (lv_at hl 0 rfl) ?_
        refine lv_dup hx hb d_Sh_take_26 rfl ?_
        refine va_get (D := (dC, dI)) (ci := 8) (v := .int tk) (C := R_Sh) (T := F_Sh) (N := 5) hx hb hts i_Sh hown hK hP 0 rfl rfl 4 (by decide) (hts _ gw_58) (fun _ h9 => h9) rfl d_Sh_take_27 ?_
        refine lv_iload_n hx hb d_Sh_take_30 rfl (lv_at hl 3 rfl) ?_
        refine lv_iadd hx hb d_Sh_take_31 ?_
        refine va_put (D := (dC, dI)) (ci := 8) (v := .int (tk + (nI M))) (ty := .int) (C := R_Sh) (T := F_Sh) (N := 5) hx hb hts i_Sh t_Sh t_Sh_ok n_Sh hown hK hP hD hS 0 rfl rfl 4 (by decide) (hts _ gw_58) (fun _ h9 => h9) rfl (by decide +kernel) rfl rfl (Nat.le_of_ble_eq_true rfl) d_Sh_take_32 (fun H locs hP hD hS => ?_)
        have hP : va_P (dC, dI) classes [(h, .inr (8, [.ref sm, .ref wd, .ref bl, .int (nI F), .int (tk + (nI M))])), (sm, .inl (cI, 8, .inl f)), (wd, .inl (cI, 64, .inl w)), (bl, .inl (cB, 64, .inl b)), (sc, .inl (cB, N, .inl g))] H := hP
        have hD : va_D A [(h, .inr (8, [.ref sm, .ref wd, .ref bl, .int (nI F), .int (tk + (nI M))])), (sm, .inl (cI, 8, .inl f)), (wd, .inl (cI, 64, .inl w)), (bl, .inl (cB, 64, .inl b)), (sc, .inl (cB, N, .inl g))] := hD
        rw [← hQe]
        exact W.vret hx hb hr (fun t ht hW => ⟨⟨(f, w, b, F), rfl, ⟨hs, hF⟩, by rw [ht]; exact hP, va_K.moved hW.alike hK, hD⟩, hS.F ht⟩) hS.2.2 d_Sh_take_35
      · have hk9 : k < M := by rcases Nat.lt_or_ge k M with z | z; exact z; exact absurd (nI_le (a := M) z (by omega)) c_6
        refine lv_aload_n hx hb d_Sh_take_9 rfl (lv_at hl 0 rfl) ?_
        refine lv_aload_n hx hb d_Sh_take_10 rfl (lv_at hl 1 rfl) ?_
        refine lv_iload_n hx hb d_Sh_take_11 rfl (lv_at hl 2 rfl) ?_
        refine lv_iload hx hb d_Sh_take_12 (lv_at hl 4 rfl) ?_
        refine lv_iadd hx hb d_Sh_take_14 ?_
        refine lv_topi (fun x_1 ex_1 => ?_)
        obtain rfl : x_1 = nI (a + k) := by rw [ex_1]; first | done | (exact nI_add a k)
        refine va_bald hx hb hK hP 4 1 rfl rfl (vp_in_nI (by omega) (by omega)) d_Sh_take_15 ?_
        rw [show (nI (a + k)).toNatClampNeg = (a + k) from nI_clamp (by omega)]
        have hPc := hP.sub (ws' := [(h, .inr (8, [.ref sm, .ref wd, .ref bl, .int (nI F), .int tk])), (sm, .inl (cI, 8, .inl f)), (wd, .inl (cI, 64, .inl w)), (bl, .inl (cB, 64, .inl b))]) [0, 1, 2, 3] rfl
        have hDc := hD.sub (ws' := [(h, .inr (8, [.ref sm, .ref wd, .ref bl, .int (nI F), .int tk])), (sm, .inl (cI, 8, .inl f)), (wd, .inl (cI, 64, .inl w)), (bl, .inl (cB, 64, .inl b))]) [0, 1, 2, 3] (by decide) rfl
        have hFc := va_free (wc := [(h, .inr (8, [.ref sm, .ref wd, .ref bl, .int (nI F), .int tk])), (sm, .inl (cI, 8, .inl f)), (wd, .inl (cI, 64, .inl w)), (bl, .inl (cB, 64, .inl b))]) hD hS hA [0, 1, 2, 3] rfl
        refine va_callv (va_runV (As := [.int (g (a + k))]) (rest := []) ⟨hx, hb, hml, hown, hts⟩ (m_Sh_put l dC dI cI cB cL cZ cR h sm wd bl f w b F tk (g (a + k)) H.size (by omega) (hg (a + k) (by omega))) (cwV 1 hts (xg_V gw_843 gw_845 (xg_p 16 (q := (⟨"PatchStore$Sha256", "put", "(B)V"⟩, 5)) (by decide +kernel)) gw_2 gw_846) rfl rfl rfl (by decide +kernel) ⟨Nat.le_of_ble_eq_true rfl, Nat.le_of_ble_eq_true rfl⟩) ⟨xw_blindx, va_recv hK hPc (ci := 8) (q0 := 0) rfl rfl, fun U hU hW => ⟨rfl, by rw [hU], by rw [hU]; exact hPc, va_K.moved hW.alike hK, hDc.weaken (fun _ _ _ _ => trivial), xg_N.warm hW hN, by rw [hU]; exact ((hTh.kept (fun a h1 h2 => hS.2.1 a h1 h2)).narrow hFc).moved hW.alike⟩⟩ rfl rfl hl.1 rfl (lv_room (Nat.le_of_ble_eq_true rfl)) d_Sh_take_16 ⟨Nat.le_of_ble_eq_true rfl, Nat.le_of_ble_eq_true rfl⟩) hS (fun q _ h => hFc q h) hFc (fun u t H1 locs ht hvm hw hB hz1 hk1 hS => ?_)
        obtain ⟨f1, w1, b1, F1⟩ := u
        obtain ⟨hs1, hF1⟩ := sh_put_of hw
        dsimp only at hs1 hF1
        obtain ⟨hP1, hK1, hD1⟩ := hB
        rw [ht] at hP1
        obtain ⟨hP, hD⟩ := va_join (wr := [(sc, .inl (cB, N, .inl g))]) (w1 := [(h, .inr (8, [.ref sm, .ref wd, .ref bl, .int (nI F1), .int tk])), (sm, .inl (cI, 8, .inl f1)), (wd, .inl (cI, 64, .inl w1)), (bl, .inl (cB, 64, .inl b1))]) hP hD [0, 1, 2, 3] [4] rfl rfl (by decide) (by decide) hk1 hFc hP1 hD1
        generalize H1 = H at hP hS ⊢
        have hP : va_P (dC, dI) classes [(sc, .inl (cB, N, .inl g)), (h, .inr (8, [.ref sm, .ref wd, .ref bl, .int (nI F1), .int tk])), (sm, .inl (cI, 8, .inl f1)), (wd, .inl (cI, 64, .inl w1)), (bl, .inl (cB, 64, .inl b1))] H := hP
        have hD : va_D A [(sc, .inl (cB, N, .inl g)), (h, .inr (8, [.ref sm, .ref wd, .ref bl, .int (nI F1), .int tk])), (sm, .inl (cI, 8, .inl f1)), (wd, .inl (cI, 64, .inl w1)), (bl, .inl (cB, 64, .inl b1))] := hD
        refine lv_iinc (v := nI (k + 1)) (lv' := [(4, .int (nI (k + 1))), (0, .ref h), (1, .ref sc), (2, .int (nI a)), (3, .int (nI M))]) hx hb d_Sh_take_19 hl (k := 4) rfl (by exact nI_1 k) (by decide) rfl (fun ls hl => ?_)
        refine lv_goto (tgt := 3) hx hb d_Sh_take_22 (by decide) ?_
        exact ih_3 (k + 1) f1 w1 b1 F1 _ _ _ (by omega) (by omega) (hF1) (by show sh_put1 _ (sh_puts g a k (f0, b0, Fz)) = _; rw [hs]; exact hs1) (hP.sub [1, 2, 3, 4, 0] rfl) (hD.sub [1, 2, 3, 4, 0] (by decide) rfl) hS (lv_sub hl [1, 2, 3, 4, 0] rfl)
  exact loop_3 _ 0 f0 w0 b0 Fz _ _ _ (Nat.lt_succ_self _) (Nat.zero_le _) (hFz) (rfl) hP hD hS (lv_sub hl [1, 2, 3, 4, 0] rfl)
set_option maxHeartbeats 4000000 in
set_option maxRecDepth 100000 in
/-- Sha256.finish -/
theorem m_Sh_finish (l : Launch) (dC : Nat → ClassId) (dI : Nat → Nat → Nat) (cI cB cL cZ cR : ClassId) (h sm wd bl tg : Nat) (f0 w0 b0 : Nat → Int32) (Fz : Nat) (tk : Int32) (N a : Nat) (g : Nat → Int32) (sz : Nat) (hFz : Fz < 64) (hN : N < 2 ^ 31) (haM : a + 32 ≤ N) : Met l y_Sh_finish ws_Sh_finish ({ frames := 2, cells := 0, slots := 0, locals := 100 }) (xw_Px dC dI [(cI, .int), (cB, .byte), (cL, .long), (cZ, .boolean), (cR, .object "PatchStore$Repository")] [.ref h, .ref tg, .int (nI a)] [(h, .inr (8, [.ref sm, .ref wd, .ref bl, .int (nI Fz), .int tk])), (sm, .inl (cI, 8, .inl f0)), (wd, .inl (cI, 64, .inl w0)), (bl, .inl (cB, 64, .inl b0)), (tg, .inl (cB, N, .inl g))] sz) (va_Qv (fun u : (Nat → Int32) × (Nat → Int32) × (Nat → Int32) × Nat × (Nat → Int32) => sh_fin tk (f0, b0, Fz) = (u.1, u.2.2.1, u.2.2.2.1) ∧ u.2.2.2.1 < 64 ∧ u.2.2.2.2 = sh_out u.1 a 32 g) (fun u t => xw_B dC dI [(cI, .int), (cB, .byte), (cL, .long), (cZ, .boolean), (cR, .object "PatchStore$Repository")] (va_A [(h, .inr (8, [.ref sm, .ref wd, .ref bl, .int (nI Fz), .int tk])), (sm, .inl (cI, 8, .inl f0)), (wd, .inl (cI, 64, .inl w0)), (bl, .inl (cB, 64, .inl b0)), (tg, .inl (cB, N, .inl g))] sz) [(h, .inr (8, [.ref sm, .ref wd, .ref bl, .int (nI u.2.2.2.1), .int tk])), (sm, .inl (cI, 8, .inl u.1)), (wd, .inl (cI, 64, .inl u.2.1)), (bl, .inl (cB, 64, .inl u.2.2.1)), (tg, .inl (cB, N, .inl u.2.2.2.2))] t) (va_A [(h, .inr (8, [.ref sm, .ref wd, .ref bl, .int (nI Fz), .int tk])), (sm, .inl (cI, 8, .inl f0)), (wd, .inl (cI, 64, .inl w0)), (bl, .inl (cB, 64, .inl b0)), (tg, .inl (cB, N, .inl g))] sz)) 0 0 (va_A [(h, .inr (8, [.ref sm, .ref wd, .ref bl, .int (nI Fz), .int tk])), (sm, .inl (cI, 8, .inl f0)), (wd, .inl (cI, 64, .inl w0)), (bl, .inl (cB, 64, .inl b0)), (tg, .inl (cB, N, .inl g))] sz) := by
  refine Met.ofW (cc := prog_9_method_4_code) (maxL := 6) (ret := none) (by decide) rfl ?_
  intro p e s m args below meth c s₁ B hml hv
  obtain ⟨rfl, hsz, hP, hK, hD0, hN, hTh⟩ := hv
  have hx := B.exec
  have hb := B.bytes
  have hr := B.returns
  have hts0 := atoms_spec (ws := ws_Sh_finish) B.pre
  have hts : ∀ w ∈ xg_1, w.before _ s = true := fun w h => hts0 w (List.mem_cons_of_mem _ h)
  have hown : s.vm.findClass "PatchStore$Sha256" = some m.cls := findClass_of_methodNamed B.named
  have hlocks := B.notSynchronized
  subst hsz
  have hD := hD0.self (sz := s.heap.size)
  generalize hAe : va_A [(h, .inr (8, [.ref sm, .ref wd, .ref bl, .int (nI Fz), .int tk])), (sm, .inl (cI, 8, .inl f0)), (wd, .inl (cI, 64, .inl w0)), (bl, .inl (cB, 64, .inl b0)), (tg, .inl (cB, N, .inl g))] s.heap.size = A at hD hTh ⊢
  have hA : ∀ q : Nat, s.heap.size ≤ q → A q := fun q h => by rw [← hAe]; exact Or.inr h
  have hS : va_S A s.heap s.heap [] := va_S.rf
  have hl := lv_entry ([.ref h, .ref tg, .int (nI a)]) (n := 6) (Nat.le_of_ble_eq_true rfl)
  rw [lg_entry_eq]
  generalize (lg_sl ([.ref h, .ref tg, .int (nI a)]) ++ List.replicate (6 - (lg_sl ([.ref h, .ref tg, .int (nI a)])).length) Slot.unset).toArray = ls at hl ⊢
  have hl : lv_has ls 6 [(0, .ref h), (1, .ref tg), (2, .int (nI a))] := hl
  generalize hQe : MQ _ _ _ _ _ _ _ = Q
  refine lv_aload_n hx hb d_Sh_finish_0 rfl (lv_at hl 0 rfl) ?_
  refine lv_bipush (v := (-128)) hx hb d_Sh_finish_1 (by decide) ?_
  have hPc := hP.sub (ws' := [(h, .inr (8, [.ref sm, .ref wd, .ref bl, .int (nI Fz), .int tk])), (sm, .inl (cI, 8, .inl f0)), (wd, .inl (cI, 64, .inl w0)), (bl, .inl (cB, 64, .inl b0))]) [0, 1, 2, 3] rfl
  have hDc := hD.sub (ws' := [(h, .inr (8, [.ref sm, .ref wd, .ref bl, .int (nI Fz), .int tk])), (sm, .inl (cI, 8, .inl f0)), (wd, .inl (cI, 64, .inl w0)), (bl, .inl (cB, 64, .inl b0))]) [0, 1, 2, 3] (by decide) rfl
  have hFc := va_free (wc := [(h, .inr (8, [.ref sm, .ref wd, .ref bl, .int (nI Fz), .int tk])), (sm, .inl (cI, 8, .inl f0)), (wd, .inl (cI, 64, .inl w0)), (bl, .inl (cB, 64, .inl b0))]) hD hS hA [0, 1, 2, 3] rfl
  refine va_callv (va_runV (As := [.int (-128)]) (rest := []) ⟨hx, hb, hml, hown, hts⟩ (m_Sh_put l dC dI cI cB cL cZ cR h sm wd bl f0 w0 b0 Fz tk (-128) s.heap.size (by omega) (by decide)) (cwV 1 hts (xg_V gw_843 gw_845 (xg_p 16 (q := (⟨"PatchStore$Sha256", "put", "(B)V"⟩, 5)) (by decide +kernel)) gw_2 gw_846) rfl rfl rfl (by decide +kernel) ⟨Nat.le_of_ble_eq_true rfl, Nat.le_of_ble_eq_true rfl⟩) ⟨xw_blindx, va_recv hK hPc (ci := 8) (q0 := 0) rfl rfl, fun U hU hW => ⟨rfl, by rw [hU], by rw [hU]; exact hPc, va_K.moved hW.alike hK, hDc.weaken (fun _ _ _ _ => trivial), xg_N.warm hW hN, by rw [hU]; exact ((hTh.kept (fun a h1 h2 => hS.2.1 a h1 h2)).narrow hFc).moved hW.alike⟩⟩ rfl rfl hl.1 rfl (lv_room (Nat.le_of_ble_eq_true rfl)) d_Sh_finish_3 ⟨Nat.le_of_ble_eq_true rfl, Nat.le_of_ble_eq_true rfl⟩) hS (fun q _ h => hFc q h) hFc (fun u t H1 locs ht hvm hw hB hz1 hk1 hS => ?_)
  obtain ⟨f11, w11, b11, F11⟩ := u
  obtain ⟨hs11, hF11⟩ := sh_put_of hw
  dsimp only at hs11 hF11
  obtain ⟨hP1, hK1, hD1⟩ := hB
  rw [ht] at hP1
  obtain ⟨hP, hD⟩ := va_join (wr := [(tg, .inl (cB, N, .inl g))]) (w1 := [(h, .inr (8, [.ref sm, .ref wd, .ref bl, .int (nI F11), .int tk])), (sm, .inl (cI, 8, .inl f11)), (wd, .inl (cI, 64, .inl w11)), (bl, .inl (cB, 64, .inl b11))]) hP hD [0, 1, 2, 3] [4] rfl rfl (by decide) (by decide) hk1 hFc hP1 hD1
  generalize H1 = H at hP hS ⊢
  have hP : va_P (dC, dI) classes [(tg, .inl (cB, N, .inl g)), (h, .inr (8, [.ref sm, .ref wd, .ref bl, .int (nI F11), .int tk])), (sm, .inl (cI, 8, .inl f11)), (wd, .inl (cI, 64, .inl w11)), (bl, .inl (cB, 64, .inl b11))] H := hP
  have hD : va_D A [(tg, .inl (cB, N, .inl g)), (h, .inr (8, [.ref sm, .ref wd, .ref bl, .int (nI F11), .int tk])), (sm, .inl (cI, 8, .inl f11)), (wd, .inl (cI, 64, .inl w11)), (bl, .inl (cB, 64, .inl b11))] := hD
  refine lv_iconst (v := 0) hx hb d_Sh_finish_6 (by decide) ?_
  refine lv_istore_n (lv' := [(3, .int 0), (0, .ref h), (1, .ref tg), (2, .int (nI a))]) hx hb d_Sh_finish_7 rfl hl (by decide) rfl (fun ls hl => ?_)
  have loop_8 : ∀ (n : Nat) (k : Nat) (f : Nat → Int32) (w : Nat → Int32) (b : Nat → Int32) (F : Nat) (H : Heap) (locs : List Loc) (ls : Array Slot), sh_z F11 - k < n → (k ≤ sh_z F11) → (F < 64) → (sh_zeros k (f11, b11, F11) = (f, b, F)) → va_P (dC, dI) classes [(h, .inr (8, [.ref sm, .ref wd, .ref bl, .int (nI F), .int tk])), (sm, .inl (cI, 8, .inl f)), (wd, .inl (cI, 64, .inl w)), (bl, .inl (cB, 64, .inl b)), (tg, .inl (cB, N, .inl g))] H → va_D A [(h, .inr (8, [.ref sm, .ref wd, .ref bl, .int (nI F), .int tk])), (sm, .inl (cI, 8, .inl f)), (wd, .inl (cI, 64, .inl w)), (bl, .inl (cB, 64, .inl b)), (tg, .inl (cB, N, .inl g))] → va_S A s.heap H locs → lv_has ls 6 [(0, .ref h), (1, .ref tg), (2, .int (nI a)), (3, .int (nI k))] → W p l e (headSpec ws_Sh_finish ({ frames := 2, cells := 0, slots := 0, locals := 100 })).room s m ([.ref h, .ref tg, .int (nI a)] : List Value).toArray below meth c H locs 0 0 Q (F0 m 8 ls []) := by
    intro n
    induction n with
    | zero => intro k f w b F H locs ls hm; exact absurd hm (Nat.not_lt_zero _)
    | succ n ih_8 =>
      intro k f w b F H locs ls hm hk hF hs hP hD hS hl
      refine lv_iload_n hx hb d_Sh_finish_8 rfl (lv_at hl 3 rfl) ?_
      refine lv_bipush (v := 64) hx hb d_Sh_finish_9 (by decide) ?_
      refine lv_icmp_ge (tgt := 34) hx hb d_Sh_finish_11 (by decide) (fun c_11 => absurd c_11 (fun z => by have z1 := (nI_leI (a := 64) (b := k) (by have := sh_z_lt F11; omega) (by have := sh_z_lt F11; omega)).mp z; have := sh_z_lt F11; omega)) (fun _ => ?_)
      refine lv_aload_n hx hb d_Sh_finish_14 rfl (lv_at hl 0 rfl) ?_
      refine va_get (D := (dC, dI)) (ci := 8) (v := .int (nI F)) (C := R_Sh) (T := F_Sh) (N := 5) hx hb hts i_Sh hown hK hP 0 rfl rfl 3 (by decide) (hts _ gw_57) (fun _ h9 => h9) rfl d_Sh_finish_15 ?_
      refine lv_bipush (v := 56) hx hb d_Sh_finish_18 (by decide) ?_
      refine lv_icmp_eq (tgt := 34) hx hb d_Sh_finish_20 (by decide) (fun c_20 => ?_) (fun c_20 => ?_)
      · have hF6 : F = 56 := (nI_eq (a := F) (b := 56) (by omega) (by omega)).mp c_20
        have hkz : k = sh_z F11 := sh_z_at hF11 hk (by have h9 := sh_zeros_F (f11, b11, F11) hF11 k; rw [hs] at h9; dsimp only at h9; omega)
        subst hkz
        refine lv_aload_n hx hb d_Sh_finish_34 rfl (lv_at hl 0 rfl) ?_
        refine va_get (D := (dC, dI)) (ci := 8) (v := .int tk) (C := R_Sh) (T := F_Sh) (N := 5) hx hb hts i_Sh hown hK hP 0 rfl rfl 4 (by decide) (hts _ gw_58) (fun _ h9 => h9) rfl d_Sh_finish_35 ?_
        refine lv_i2l hx hb d_Sh_finish_38 rfl ?_
        refine lv_ldc2 (own := "PatchStore$Sha256") hx hb hown (hts _ gw_861) d_Sh_finish_39 ?_
        refine lv_lmul hx hb d_Sh_finish_42 ?_
        refine lv_lstore_n (lv' := [(3, .long (((tk : Int32).toInt64) * 8)), (0, .ref h), (1, .ref tg), (2, .int (nI a))]) hx hb d_Sh_finish_43 rfl hl (by decide) rfl (fun ls hl => ?_)
        refine lv_bipush (v := 56) hx hb d_Sh_finish_44 (by decide) ?_
        refine lv_istore (lv' := [(5, .int 56), (3, .long (((tk : Int32).toInt64) * 8)), (0, .ref h), (1, .ref tg), (2, .int (nI a))]) hx hb d_Sh_finish_46 hl (by decide) rfl (fun ls hl => ?_)
        have loop_48 : ∀ (n : Nat) (mm : Nat) (x : Int32) (f : Nat → Int32) (w : Nat → Int32) (b : Nat → Int32) (F : Nat) (H : Heap) (locs : List Loc) (ls : Array Slot), 8 - mm < n → (sh_shx mm x) → (F < 64) → (sh_lens tk mm (sh_zeros (sh_z F11) (f11, b11, F11)) = (f, b, F)) → va_P (dC, dI) classes [(h, .inr (8, [.ref sm, .ref wd, .ref bl, .int (nI F), .int tk])), (sm, .inl (cI, 8, .inl f)), (wd, .inl (cI, 64, .inl w)), (bl, .inl (cB, 64, .inl b)), (tg, .inl (cB, N, .inl g))] H → va_D A [(h, .inr (8, [.ref sm, .ref wd, .ref bl, .int (nI F), .int tk])), (sm, .inl (cI, 8, .inl f)), (wd, .inl (cI, 64, .inl w)), (bl, .inl (cB, 64, .inl b)), (tg, .inl (cB, N, .inl g))] → va_S A s.heap H locs → lv_has ls 6 [(0, .ref h), (1, .ref tg), (2, .int (nI a)), (3, .long ((tk : Int32).toInt64 * 8)), (5, .int x)] → W p l e (headSpec ws_Sh_finish ({ frames := 2, cells := 0, slots := 0, locals := 100 })).room s m ([.ref h, .ref tg, .int (nI a)] : List Value).toArray below meth c H locs 0 0 Q (F0 m 48 ls []) := by
          intro n
          induction n with
          | zero => intro mm x f w b F H locs ls hm; exact absurd hm (Nat.not_lt_zero _)
          | succ n ih_48 =>
            intro mm x f w b F H locs ls hm hm hF hs hP hD hS hl
            refine lv_iload hx hb d_Sh_finish_48 (lv_at hl 4 rfl) ?_
            refine lv_if_lt (tgt := 69) hx hb d_Sh_finish_50 (by decide) (fun c_50 => ?_) (fun c_50 => ?_)
            · have hm8 : mm = 8 := sh_shx_e hm c_50
              subst hm8
              refine lv_iconst (v := 0) hx hb d_Sh_finish_69 (by decide) ?_
              refine lv_istore (lv' := [(5, .int 0), (0, .ref h), (1, .ref tg), (2, .int (nI a)), (3, .long ((tk : Int32).toInt64 * 8))]) hx hb d_Sh_finish_70 hl (by decide) rfl (fun ls hl => ?_)
              have loop_72 : ∀ (n : Nat) (k : Nat) (H : Heap) (locs : List Loc) (ls : Array Slot), 32 - k < n → (k ≤ 32) → va_P (dC, dI) classes [(h, .inr (8, [.ref sm, .ref wd, .ref bl, .int (nI F), .int tk])), (sm, .inl (cI, 8, .inl f)), (wd, .inl (cI, 64, .inl w)), (bl, .inl (cB, 64, .inl b)), (tg, .inl (cB, N, .inl (sh_out f a k g)))] H → va_D A [(h, .inr (8, [.ref sm, .ref wd, .ref bl, .int (nI F), .int tk])), (sm, .inl (cI, 8, .inl f)), (wd, .inl (cI, 64, .inl w)), (bl, .inl (cB, 64, .inl b)), (tg, .inl (cB, N, .inl (sh_out f a k g)))] → va_S A s.heap H locs → lv_has ls 6 [(0, .ref h), (1, .ref tg), (2, .int (nI a)), (5, .int (nI k))] → W p l e (headSpec ws_Sh_finish ({ frames := 2, cells := 0, slots := 0, locals := 100 })).room s m ([.ref h, .ref tg, .int (nI a)] : List Value).toArray below meth c H locs 0 0 Q (F0 m 72 ls []) := by
                intro n
                induction n with
                | zero => intro k H locs ls hm; exact absurd hm (Nat.not_lt_zero _)
                | succ n ih_72 =>
                  intro k H locs ls hm hk hP hD hS hl
                  refine lv_iload hx hb d_Sh_finish_72 (lv_at hl 3 rfl) ?_
                  refine lv_bipush (v := 32) hx hb d_Sh_finish_74 (by decide) ?_
                  refine lv_icmp_ge (tgt := 112) hx hb d_Sh_finish_76 (by decide) (fun c_76 => ?_) (fun c_76 => ?_)
                  · have hk9 : k = 32 := by have := (nI_leI (a := 32) (b := k) (by omega) (by omega)).mp c_76; omega
                    subst hk9
                    rw [← hQe]
                    exact W.vret hx hb hr (fun t ht hW => ⟨⟨(f, w, b, F, sh_out f a 32 g), rfl, ⟨by unfold sh_fin; rw [hs11]; exact hs, hF, rfl⟩, by rw [ht]; exact hP, va_K.moved hW.alike hK, hD⟩, hS.F ht⟩) hS.2.2 d_Sh_finish_112
                  · have hk9 : k < 32 := by rcases Nat.lt_or_ge k 32 with z | z; exact z; exact absurd (nI_le (a := 32) z (by omega)) c_76
                    refine lv_aload_n hx hb d_Sh_finish_79 rfl (lv_at hl 1 rfl) ?_
                    refine lv_iload_n hx hb d_Sh_finish_80 rfl (lv_at hl 2 rfl) ?_
                    refine lv_iload hx hb d_Sh_finish_81 (lv_at hl 3 rfl) ?_
                    refine lv_iadd hx hb d_Sh_finish_83 ?_
                    refine lv_topi (fun x_1 ex_1 => ?_)
                    obtain rfl : x_1 = nI (a + k) := by rw [ex_1]; first | done | (exact nI_add a k)
                    refine lv_aload_n hx hb d_Sh_finish_84 rfl (lv_at hl 0 rfl) ?_
                    refine va_get (D := (dC, dI)) (ci := 8) (v := .ref sm) (C := R_Sh) (T := F_Sh) (N := 5) hx hb hts i_Sh hown hK hP 0 rfl rfl 0 (by decide) (hts _ gw_54) (fun _ h9 => h9) rfl d_Sh_finish_85 ?_
                    refine lv_iload hx hb d_Sh_finish_88 (lv_at hl 3 rfl) ?_
                    refine lv_iconst (v := 4) hx hb d_Sh_finish_90 (by decide) ?_
                    refine lv_idiv hx hb d_Sh_finish_91 (by decide) ?_
                    refine lv_topi (fun x_2 ex_2 => ?_)
                    obtain rfl : x_2 = nI (k / 4) := by rw [ex_2]; first | done | (exact pk_div (d := 4) (by omega) (by omega) (by omega))
                    refine va_iald hx hb hK hP 1 0 rfl rfl (vp_in_nI (by omega) (by omega)) d_Sh_finish_92 ?_
                    rw [show (nI (k / 4)).toNatClampNeg = (k / 4) from nI_clamp (by omega)]
                    refine lv_bipush (v := 24) hx hb d_Sh_finish_93 (by decide) ?_
                    refine lv_bipush (v := 8) hx hb d_Sh_finish_95 (by decide) ?_
                    refine lv_iload hx hb d_Sh_finish_97 (lv_at hl 3 rfl) ?_
                    refine lv_iconst (v := 4) hx hb d_Sh_finish_99 (by decide) ?_
                    refine lv_irem hx hb d_Sh_finish_100 (by decide) ?_
                    refine lv_topi (fun x_3 ex_3 => ?_)
                    obtain rfl : x_3 = nI (k % 4) := by rw [ex_3]; first | done | (exact pk_rem (d := 4) (by omega) (by omega) (by omega))
                    refine lv_imul hx hb d_Sh_finish_101 ?_
                    refine lv_isub hx hb d_Sh_finish_102 ?_
                    refine lv_ishr hx hb d_Sh_finish_103 ?_
                    refine lv_i2b hx hb d_Sh_finish_104 rfl ?_
                    refine lv_topi (fun x_4 ex_4 => ?_)
                    obtain rfl : x_4 = sh_outb f k := by rw [ex_4]; first | done | (rfl)
                    refine va_bast hx hb hK hP hD hS 4 1 rfl rfl (vp_in_nI (by omega) (by omega)) d_Sh_finish_105 (fun H locs hP hD hS => ?_)
                    rw [show (nI (a + k)).toNatClampNeg = (a + k) from nI_clamp (by omega)] at hP hD
                    rw [show vp_nar .byte (sh_outb f k) = (sh_outb f k) from pk_vb _] at hP hD
                    have hP : va_P (dC, dI) classes [(h, .inr (8, [.ref sm, .ref wd, .ref bl, .int (nI F), .int tk])), (sm, .inl (cI, 8, .inl f)), (wd, .inl (cI, 64, .inl w)), (bl, .inl (cB, 64, .inl b)), (tg, .inl (cB, N, .inl (upd (sh_out f a k g) (a + k) (sh_outb f k))))] H := hP
                    have hD : va_D A [(h, .inr (8, [.ref sm, .ref wd, .ref bl, .int (nI F), .int tk])), (sm, .inl (cI, 8, .inl f)), (wd, .inl (cI, 64, .inl w)), (bl, .inl (cB, 64, .inl b)), (tg, .inl (cB, N, .inl (upd (sh_out f a k g) (a + k) (sh_outb f k))))] := hD
                    refine lv_iinc (v := nI (k + 1)) (lv' := [(5, .int (nI (k + 1))), (0, .ref h), (1, .ref tg), (2, .int (nI a))]) hx hb d_Sh_finish_106 hl (k := 3) rfl (by exact nI_1 k) (by decide) rfl (fun ls hl => ?_)
                    refine lv_goto (tgt := 72) hx hb d_Sh_finish_109 (by decide) ?_
                    rw [sh_out_s] at hP hD
                    exact ih_72 (k + 1) _ _ _ (by omega) (by omega) hP hD hS (lv_sub hl [1, 2, 3, 0] rfl)
              rw [← sh_out_0 (f := f) (a := a) (g := g)] at hP hD
              exact loop_72 _ 0 _ _ _ (Nat.lt_succ_self _) (Nat.zero_le _) hP hD hS (lv_sub hl [1, 2, 3, 0] rfl)
            · have hx0 : ¬ x < 0 := c_50
              have hx1 := sh_shx_n hm c_50
              have hm7 : mm ≤ 7 := hx1.1
              refine lv_aload_n hx hb d_Sh_finish_53 rfl (lv_at hl 0 rfl) ?_
              refine lv_lload_n hx hb d_Sh_finish_54 rfl (lv_at hl 3 rfl) ?_
              refine lv_iload hx hb d_Sh_finish_55 (lv_at hl 4 rfl) ?_
              refine lv_lshr hx hb d_Sh_finish_57 rfl ?_
              refine lv_l2i hx hb d_Sh_finish_58 rfl ?_
              refine lv_i2b hx hb d_Sh_finish_59 rfl ?_
              have hPc := hP.sub (ws' := [(h, .inr (8, [.ref sm, .ref wd, .ref bl, .int (nI F), .int tk])), (sm, .inl (cI, 8, .inl f)), (wd, .inl (cI, 64, .inl w)), (bl, .inl (cB, 64, .inl b))]) [0, 1, 2, 3] rfl
              have hDc := hD.sub (ws' := [(h, .inr (8, [.ref sm, .ref wd, .ref bl, .int (nI F), .int tk])), (sm, .inl (cI, 8, .inl f)), (wd, .inl (cI, 64, .inl w)), (bl, .inl (cB, 64, .inl b))]) [0, 1, 2, 3] (by decide) rfl
              have hFc := va_free (wc := [(h, .inr (8, [.ref sm, .ref wd, .ref bl, .int (nI F), .int tk])), (sm, .inl (cI, 8, .inl f)), (wd, .inl (cI, 64, .inl w)), (bl, .inl (cB, 64, .inl b))]) hD hS hA [0, 1, 2, 3] rfl
              refine va_callv (va_runV (As := [.int (((((tk : Int32).toInt64 * 8) >>> ((x : Int32).toInt64 &&& 63) : Int64).toInt32 : Int32).toInt8.toInt32)]) (rest := []) ⟨hx, hb, hml, hown, hts⟩ (m_Sh_put l dC dI cI cB cL cZ cR h sm wd bl f w b F tk (((((tk : Int32).toInt64 * 8) >>> ((x : Int32).toInt64 &&& 63) : Int64).toInt32 : Int32).toInt8.toInt32) H.size (by omega) (pk_vb _)) (cwV 1 hts (xg_V gw_843 gw_845 (xg_p 16 (q := (⟨"PatchStore$Sha256", "put", "(B)V"⟩, 5)) (by decide +kernel)) gw_2 gw_846) rfl rfl rfl (by decide +kernel) ⟨Nat.le_of_ble_eq_true rfl, Nat.le_of_ble_eq_true rfl⟩) ⟨xw_blindx, va_recv hK hPc (ci := 8) (q0 := 0) rfl rfl, fun U hU hW => ⟨rfl, by rw [hU], by rw [hU]; exact hPc, va_K.moved hW.alike hK, hDc.weaken (fun _ _ _ _ => trivial), xg_N.warm hW hN, by rw [hU]; exact ((hTh.kept (fun a h1 h2 => hS.2.1 a h1 h2)).narrow hFc).moved hW.alike⟩⟩ rfl rfl hl.1 rfl (lv_room (Nat.le_of_ble_eq_true rfl)) d_Sh_finish_60 ⟨Nat.le_of_ble_eq_true rfl, Nat.le_of_ble_eq_true rfl⟩) hS (fun q _ h => hFc q h) hFc (fun u t H1 locs ht hvm hw hB hz1 hk1 hS => ?_)
              obtain ⟨f12, w12, b12, F12⟩ := u
              obtain ⟨hs12, hF12⟩ := sh_put_of hw
              dsimp only at hs12 hF12
              obtain ⟨hP1, hK1, hD1⟩ := hB
              rw [ht] at hP1
              obtain ⟨hP, hD⟩ := va_join (wr := [(tg, .inl (cB, N, .inl g))]) (w1 := [(h, .inr (8, [.ref sm, .ref wd, .ref bl, .int (nI F12), .int tk])), (sm, .inl (cI, 8, .inl f12)), (wd, .inl (cI, 64, .inl w12)), (bl, .inl (cB, 64, .inl b12))]) hP hD [0, 1, 2, 3] [4] rfl rfl (by decide) (by decide) hk1 hFc hP1 hD1
              generalize H1 = H at hP hS ⊢
              have hP : va_P (dC, dI) classes [(tg, .inl (cB, N, .inl g)), (h, .inr (8, [.ref sm, .ref wd, .ref bl, .int (nI F12), .int tk])), (sm, .inl (cI, 8, .inl f12)), (wd, .inl (cI, 64, .inl w12)), (bl, .inl (cB, 64, .inl b12))] H := hP
              have hD : va_D A [(tg, .inl (cB, N, .inl g)), (h, .inr (8, [.ref sm, .ref wd, .ref bl, .int (nI F12), .int tk])), (sm, .inl (cI, 8, .inl f12)), (wd, .inl (cI, 64, .inl w12)), (bl, .inl (cB, 64, .inl b12))] := hD
              refine lv_iinc (v := x + (-8)) (lv' := [(5, .int (x + (-8))), (0, .ref h), (1, .ref tg), (2, .int (nI a)), (3, .long ((tk : Int32).toInt64 * 8))]) hx hb d_Sh_finish_63 hl (k := 4) rfl (by exact rfl) (by decide) rfl (fun ls hl => ?_)
              refine lv_goto (tgt := 48) hx hb d_Sh_finish_66 (by decide) ?_
              exact ih_48 (mm + 1) (x + (-8)) f12 w12 b12 F12 _ _ _ (by omega) (sh_shx_s hm hx0) (hF12) (by show sh_put1 _ (sh_lens tk mm _) = _; rw [hs]; have h9 := hs12; rw [hx1.2] at h9; exact h9) (hP.sub [1, 2, 3, 4, 0] rfl) (hD.sub [1, 2, 3, 4, 0] (by decide) rfl) hS (lv_sub hl [1, 2, 3, 4, 0] rfl)
        exact loop_48 _ 0 56 f w b F _ _ _ (Nat.lt_succ_self _) (Or.inl ⟨by decide, rfl⟩) (hF) (hs) hP hD hS (lv_sub hl [2, 3, 4, 1, 0] rfl)
      · have hne : ¬ (F11 + k) % 64 = 56 := by have h9 := sh_zeros_F (f11, b11, F11) hF11 k; rw [hs] at h9; dsimp only at h9; intro z; exact c_20 (by rw [h9, z]; rfl)
        refine lv_aload_n hx hb d_Sh_finish_23 rfl (lv_at hl 0 rfl) ?_
        refine lv_iconst (v := 0) hx hb d_Sh_finish_24 (by decide) ?_
        have hPc := hP.sub (ws' := [(h, .inr (8, [.ref sm, .ref wd, .ref bl, .int (nI F), .int tk])), (sm, .inl (cI, 8, .inl f)), (wd, .inl (cI, 64, .inl w)), (bl, .inl (cB, 64, .inl b))]) [0, 1, 2, 3] rfl
        have hDc := hD.sub (ws' := [(h, .inr (8, [.ref sm, .ref wd, .ref bl, .int (nI F), .int tk])), (sm, .inl (cI, 8, .inl f)), (wd, .inl (cI, 64, .inl w)), (bl, .inl (cB, 64, .inl b))]) [0, 1, 2, 3] (by decide) rfl
        have hFc := va_free (wc := [(h, .inr (8, [.ref sm, .ref wd, .ref bl, .int (nI F), .int tk])), (sm, .inl (cI, 8, .inl f)), (wd, .inl (cI, 64, .inl w)), (bl, .inl (cB, 64, .inl b))]) hD hS hA [0, 1, 2, 3] rfl
        refine va_callv (va_runV (As := [.int 0]) (rest := []) ⟨hx, hb, hml, hown, hts⟩ (m_Sh_put l dC dI cI cB cL cZ cR h sm wd bl f w b F tk 0 H.size (by omega) (by decide)) (cwV 1 hts (xg_V gw_843 gw_845 (xg_p 16 (q := (⟨"PatchStore$Sha256", "put", "(B)V"⟩, 5)) (by decide +kernel)) gw_2 gw_846) rfl rfl rfl (by decide +kernel) ⟨Nat.le_of_ble_eq_true rfl, Nat.le_of_ble_eq_true rfl⟩) ⟨xw_blindx, va_recv hK hPc (ci := 8) (q0 := 0) rfl rfl, fun U hU hW => ⟨rfl, by rw [hU], by rw [hU]; exact hPc, va_K.moved hW.alike hK, hDc.weaken (fun _ _ _ _ => trivial), xg_N.warm hW hN, by rw [hU]; exact ((hTh.kept (fun a h1 h2 => hS.2.1 a h1 h2)).narrow hFc).moved hW.alike⟩⟩ rfl rfl hl.1 rfl (lv_room (Nat.le_of_ble_eq_true rfl)) d_Sh_finish_25 ⟨Nat.le_of_ble_eq_true rfl, Nat.le_of_ble_eq_true rfl⟩) hS (fun q _ h => hFc q h) hFc (fun u t H1 locs ht hvm hw hB hz1 hk1 hS => ?_)
        obtain ⟨f13, w13, b13, F13⟩ := u
        obtain ⟨hs13, hF13⟩ := sh_put_of hw
        dsimp only at hs13 hF13
        obtain ⟨hP1, hK1, hD1⟩ := hB
        rw [ht] at hP1
        obtain ⟨hP, hD⟩ := va_join (wr := [(tg, .inl (cB, N, .inl g))]) (w1 := [(h, .inr (8, [.ref sm, .ref wd, .ref bl, .int (nI F13), .int tk])), (sm, .inl (cI, 8, .inl f13)), (wd, .inl (cI, 64, .inl w13)), (bl, .inl (cB, 64, .inl b13))]) hP hD [0, 1, 2, 3] [4] rfl rfl (by decide) (by decide) hk1 hFc hP1 hD1
        generalize H1 = H at hP hS ⊢
        have hP : va_P (dC, dI) classes [(tg, .inl (cB, N, .inl g)), (h, .inr (8, [.ref sm, .ref wd, .ref bl, .int (nI F13), .int tk])), (sm, .inl (cI, 8, .inl f13)), (wd, .inl (cI, 64, .inl w13)), (bl, .inl (cB, 64, .inl b13))] H := hP
        have hD : va_D A [(tg, .inl (cB, N, .inl g)), (h, .inr (8, [.ref sm, .ref wd, .ref bl, .int (nI F13), .int tk])), (sm, .inl (cI, 8, .inl f13)), (wd, .inl (cI, 64, .inl w13)), (bl, .inl (cB, 64, .inl b13))] := hD
        refine lv_iinc (v := nI (k + 1)) (lv' := [(3, .int (nI (k + 1))), (0, .ref h), (1, .ref tg), (2, .int (nI a))]) hx hb d_Sh_finish_28 hl (k := 3) rfl (by exact nI_1 k) (by decide) rfl (fun ls hl => ?_)
        refine lv_goto (tgt := 8) hx hb d_Sh_finish_31 (by decide) ?_
        exact ih_8 (k + 1) f13 w13 b13 F13 _ _ _ (by have := sh_z_on hF11 hk hne; omega) (sh_z_on hF11 hk hne) (hF13) (by show sh_put1 0 (sh_zeros k (f11, b11, F11)) = _; rw [hs]; exact hs13) (hP.sub [1, 2, 3, 4, 0] rfl) (hD.sub [1, 2, 3, 4, 0] (by decide) rfl) hS (lv_sub hl [1, 2, 3, 0] rfl)
  exact loop_8 _ 0 f11 w11 b11 F11 _ _ _ (Nat.lt_succ_self _) (Nat.zero_le _) (hF11) (rfl) (hP.sub [1, 2, 3, 4, 0] rfl) (hD.sub [1, 2, 3, 4, 0] (by decide) rfl) hS (lv_sub hl [1, 2, 3, 0] rfl)
