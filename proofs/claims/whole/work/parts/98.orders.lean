section
/-! 98.orders.lean.txt -/
theorem gw_91 : (Jvm.Cond.fieldLink "PatchStore$Text" (146 : Nat) "PatchStore$Changes" "at" "[I") ∈ xg_1 := xg_s1 91 rfl rfl
theorem gw_1080 : (Jvm.Cond.methodLink "PatchStore$Text" (149 : Nat) ({ cls := "PatchStore$Stock", name := "lineNamed", desc := "(II)I" } : Jvm.MethodName)) ∈ xg_1 := xg_s5 120 rfl rfl
def y_Tx_layOrdersAndDeletes : MethodName := ⟨"PatchStore$Text", "layOrdersAndDeletes", "(I)V"⟩
abbrev c_Tx_layOrdersAndDeletes : Cond := (Jvm.Cond.code ({ cls := "PatchStore$Text", name := "layOrdersAndDeletes", desc := "(I)V" } : Jvm.MethodName) prog_11_method_10_code (6 : Nat) (Option.none : Option Jvm.ClassFile.FieldType))
abbrev ws_Tx_layOrdersAndDeletes : List Cond := c_Tx_layOrdersAndDeletes :: xg_1
theorem d_Tx_layOrdersAndDeletes_0 : decode prog_11_method_10_code 0 = .ok (.aload_n 0, 1) := by decide +kernel
theorem d_Tx_layOrdersAndDeletes_1 : decode prog_11_method_10_code 1 = .ok (.getfield 34, 3) := by decide +kernel
theorem d_Tx_layOrdersAndDeletes_4 : decode prog_11_method_10_code 4 = .ok (.getfield 106, 3) := by decide +kernel
theorem d_Tx_layOrdersAndDeletes_7 : decode prog_11_method_10_code 7 = .ok (.iload_n 1, 1) := by decide +kernel
theorem d_Tx_layOrdersAndDeletes_8 : decode prog_11_method_10_code 8 = .ok (.iaload, 1) := by decide +kernel
theorem d_Tx_layOrdersAndDeletes_9 : decode prog_11_method_10_code 9 = .ok (.istore_n 2, 1) := by decide +kernel
theorem d_Tx_layOrdersAndDeletes_10 : decode prog_11_method_10_code 10 = .ok (.iload_n 2, 1) := by decide +kernel
theorem d_Tx_layOrdersAndDeletes_11 : decode prog_11_method_10_code 11 = .ok (.aload_n 0, 1) := by decide +kernel
theorem d_Tx_layOrdersAndDeletes_12 : decode prog_11_method_10_code 12 = .ok (.getfield 34, 3) := by decide +kernel
theorem d_Tx_layOrdersAndDeletes_15 : decode prog_11_method_10_code 15 = .ok (.getfield 106, 3) := by decide +kernel
theorem d_Tx_layOrdersAndDeletes_18 : decode prog_11_method_10_code 18 = .ok (.iload_n 1, 1) := by decide +kernel
theorem d_Tx_layOrdersAndDeletes_19 : decode prog_11_method_10_code 19 = .ok (.iconst 1, 1) := by decide +kernel
theorem d_Tx_layOrdersAndDeletes_20 : decode prog_11_method_10_code 20 = .ok (.iadd, 1) := by decide +kernel
theorem d_Tx_layOrdersAndDeletes_21 : decode prog_11_method_10_code 21 = .ok (.iaload, 1) := by decide +kernel
theorem d_Tx_layOrdersAndDeletes_22 : decode prog_11_method_10_code 22 = .ok (.if_icmp .ge 141, 3) := by decide +kernel
theorem d_Tx_layOrdersAndDeletes_25 : decode prog_11_method_10_code 25 = .ok (.aload_n 0, 1) := by decide +kernel
theorem d_Tx_layOrdersAndDeletes_26 : decode prog_11_method_10_code 26 = .ok (.getfield 44, 3) := by decide +kernel
theorem d_Tx_layOrdersAndDeletes_29 : decode prog_11_method_10_code 29 = .ok (.getfield 109, 3) := by decide +kernel
theorem d_Tx_layOrdersAndDeletes_32 : decode prog_11_method_10_code 32 = .ok (.iload_n 2, 1) := by decide +kernel
theorem d_Tx_layOrdersAndDeletes_33 : decode prog_11_method_10_code 33 = .ok (.iaload, 1) := by decide +kernel
theorem d_Tx_layOrdersAndDeletes_34 : decode prog_11_method_10_code 34 = .ok (.aload_n 0, 1) := by decide +kernel
theorem d_Tx_layOrdersAndDeletes_35 : decode prog_11_method_10_code 35 = .ok (.getfield 61, 3) := by decide +kernel
theorem d_Tx_layOrdersAndDeletes_38 : decode prog_11_method_10_code 38 = .ok (.if_icmp .eq 6, 3) := by decide +kernel
theorem d_Tx_layOrdersAndDeletes_41 : decode prog_11_method_10_code 41 = .ok (.goto 116, 3) := by decide +kernel
theorem d_Tx_layOrdersAndDeletes_44 : decode prog_11_method_10_code 44 = .ok (.aload_n 0, 1) := by decide +kernel
theorem d_Tx_layOrdersAndDeletes_45 : decode prog_11_method_10_code 45 = .ok (.getfield 34, 3) := by decide +kernel
theorem d_Tx_layOrdersAndDeletes_48 : decode prog_11_method_10_code 48 = .ok (.iload_n 2, 1) := by decide +kernel
theorem d_Tx_layOrdersAndDeletes_49 : decode prog_11_method_10_code 49 = .ok (.invokevirtual 114, 3) := by decide +kernel
theorem d_Tx_layOrdersAndDeletes_52 : decode prog_11_method_10_code 52 = .ok (.istore_n 3, 1) := by decide +kernel
theorem d_Tx_layOrdersAndDeletes_53 : decode prog_11_method_10_code 53 = .ok (.aload_n 0, 1) := by decide +kernel
theorem d_Tx_layOrdersAndDeletes_54 : decode prog_11_method_10_code 54 = .ok (.getfield 44, 3) := by decide +kernel
theorem d_Tx_layOrdersAndDeletes_57 : decode prog_11_method_10_code 57 = .ok (.getfield 146, 3) := by decide +kernel
theorem d_Tx_layOrdersAndDeletes_60 : decode prog_11_method_10_code 60 = .ok (.iload_n 2, 1) := by decide +kernel
theorem d_Tx_layOrdersAndDeletes_61 : decode prog_11_method_10_code 61 = .ok (.iaload, 1) := by decide +kernel
theorem d_Tx_layOrdersAndDeletes_62 : decode prog_11_method_10_code 62 = .ok (.istore 4, 2) := by decide +kernel
theorem d_Tx_layOrdersAndDeletes_64 : decode prog_11_method_10_code 64 = .ok (.iload_n 3, 1) := by decide +kernel
theorem d_Tx_layOrdersAndDeletes_65 : decode prog_11_method_10_code 65 = .ok (.iconst 4, 1) := by decide +kernel
theorem d_Tx_layOrdersAndDeletes_66 : decode prog_11_method_10_code 66 = .ok (.if_icmp .ne 35, 3) := by decide +kernel
theorem d_Tx_layOrdersAndDeletes_69 : decode prog_11_method_10_code 69 = .ok (.aload_n 0, 1) := by decide +kernel
theorem d_Tx_layOrdersAndDeletes_70 : decode prog_11_method_10_code 70 = .ok (.aload_n 0, 1) := by decide +kernel
theorem d_Tx_layOrdersAndDeletes_71 : decode prog_11_method_10_code 71 = .ok (.getfield 34, 3) := by decide +kernel
theorem d_Tx_layOrdersAndDeletes_74 : decode prog_11_method_10_code 74 = .ok (.iload_n 1, 1) := by decide +kernel
theorem d_Tx_layOrdersAndDeletes_75 : decode prog_11_method_10_code 75 = .ok (.iload 4, 2) := by decide +kernel
theorem d_Tx_layOrdersAndDeletes_77 : decode prog_11_method_10_code 77 = .ok (.iconst 1, 1) := by decide +kernel
theorem d_Tx_layOrdersAndDeletes_78 : decode prog_11_method_10_code 78 = .ok (.iadd, 1) := by decide +kernel
theorem d_Tx_layOrdersAndDeletes_79 : decode prog_11_method_10_code 79 = .ok (.invokevirtual 149, 3) := by decide +kernel
theorem d_Tx_layOrdersAndDeletes_82 : decode prog_11_method_10_code 82 = .ok (.aload_n 0, 1) := by decide +kernel
theorem d_Tx_layOrdersAndDeletes_83 : decode prog_11_method_10_code 83 = .ok (.getfield 34, 3) := by decide +kernel
theorem d_Tx_layOrdersAndDeletes_86 : decode prog_11_method_10_code 86 = .ok (.iload_n 1, 1) := by decide +kernel
theorem d_Tx_layOrdersAndDeletes_87 : decode prog_11_method_10_code 87 = .ok (.iload 4, 2) := by decide +kernel
theorem d_Tx_layOrdersAndDeletes_89 : decode prog_11_method_10_code 89 = .ok (.bipush 7, 2) := by decide +kernel
theorem d_Tx_layOrdersAndDeletes_91 : decode prog_11_method_10_code 91 = .ok (.iadd, 1) := by decide +kernel
theorem d_Tx_layOrdersAndDeletes_92 : decode prog_11_method_10_code 92 = .ok (.invokevirtual 149, 3) := by decide +kernel
theorem d_Tx_layOrdersAndDeletes_95 : decode prog_11_method_10_code 95 = .ok (.invokevirtual 132, 3) := by decide +kernel
theorem d_Tx_layOrdersAndDeletes_98 : decode prog_11_method_10_code 98 = .ok (.goto 59, 3) := by decide +kernel
theorem d_Tx_layOrdersAndDeletes_101 : decode prog_11_method_10_code 101 = .ok (.iload_n 3, 1) := by decide +kernel
theorem d_Tx_layOrdersAndDeletes_102 : decode prog_11_method_10_code 102 = .ok (.iconst 3, 1) := by decide +kernel
theorem d_Tx_layOrdersAndDeletes_103 : decode prog_11_method_10_code 103 = .ok (.if_icmp .ne 54, 3) := by decide +kernel
theorem d_Tx_layOrdersAndDeletes_106 : decode prog_11_method_10_code 106 = .ok (.aload_n 0, 1) := by decide +kernel
theorem d_Tx_layOrdersAndDeletes_107 : decode prog_11_method_10_code 107 = .ok (.getfield 18, 3) := by decide +kernel
theorem d_Tx_layOrdersAndDeletes_110 : decode prog_11_method_10_code 110 = .ok (.aload_n 0, 1) := by decide +kernel
theorem d_Tx_layOrdersAndDeletes_111 : decode prog_11_method_10_code 111 = .ok (.getfield 34, 3) := by decide +kernel
theorem d_Tx_layOrdersAndDeletes_114 : decode prog_11_method_10_code 114 = .ok (.iload_n 1, 1) := by decide +kernel
theorem d_Tx_layOrdersAndDeletes_115 : decode prog_11_method_10_code 115 = .ok (.iload 4, 2) := by decide +kernel
theorem d_Tx_layOrdersAndDeletes_117 : decode prog_11_method_10_code 117 = .ok (.iconst 1, 1) := by decide +kernel
theorem d_Tx_layOrdersAndDeletes_118 : decode prog_11_method_10_code 118 = .ok (.iadd, 1) := by decide +kernel
theorem d_Tx_layOrdersAndDeletes_119 : decode prog_11_method_10_code 119 = .ok (.invokevirtual 149, 3) := by decide +kernel
theorem d_Tx_layOrdersAndDeletes_122 : decode prog_11_method_10_code 122 = .ok (.iaload, 1) := by decide +kernel
theorem d_Tx_layOrdersAndDeletes_123 : decode prog_11_method_10_code 123 = .ok (.istore 5, 2) := by decide +kernel
theorem d_Tx_layOrdersAndDeletes_125 : decode prog_11_method_10_code 125 = .ok (.aload_n 0, 1) := by decide +kernel
theorem d_Tx_layOrdersAndDeletes_126 : decode prog_11_method_10_code 126 = .ok (.getfield 28, 3) := by decide +kernel
theorem d_Tx_layOrdersAndDeletes_129 : decode prog_11_method_10_code 129 = .ok (.iload 5, 2) := by decide +kernel
theorem d_Tx_layOrdersAndDeletes_131 : decode prog_11_method_10_code 131 = .ok (.iconst 1, 1) := by decide +kernel
theorem d_Tx_layOrdersAndDeletes_132 : decode prog_11_method_10_code 132 = .ok (.iastore, 1) := by decide +kernel
theorem d_Tx_layOrdersAndDeletes_133 : decode prog_11_method_10_code 133 = .ok (.aload_n 0, 1) := by decide +kernel
theorem d_Tx_layOrdersAndDeletes_134 : decode prog_11_method_10_code 134 = .ok (.getfield 25, 3) := by decide +kernel
theorem d_Tx_layOrdersAndDeletes_137 : decode prog_11_method_10_code 137 = .ok (.iload 5, 2) := by decide +kernel
theorem d_Tx_layOrdersAndDeletes_139 : decode prog_11_method_10_code 139 = .ok (.bipush 8, 2) := by decide +kernel
theorem d_Tx_layOrdersAndDeletes_141 : decode prog_11_method_10_code 141 = .ok (.imul, 1) := by decide +kernel
theorem d_Tx_layOrdersAndDeletes_142 : decode prog_11_method_10_code 142 = .ok (.iload_n 1, 1) := by decide +kernel
theorem d_Tx_layOrdersAndDeletes_143 : decode prog_11_method_10_code 143 = .ok (.bipush 6, 2) := by decide +kernel
theorem d_Tx_layOrdersAndDeletes_145 : decode prog_11_method_10_code 145 = .ok (.ishr, 1) := by decide +kernel
theorem d_Tx_layOrdersAndDeletes_146 : decode prog_11_method_10_code 146 = .ok (.iadd, 1) := by decide +kernel
theorem d_Tx_layOrdersAndDeletes_147 : decode prog_11_method_10_code 147 = .ok (.dup2, 1) := by decide +kernel
theorem d_Tx_layOrdersAndDeletes_148 : decode prog_11_method_10_code 148 = .ok (.laload, 1) := by decide +kernel
theorem d_Tx_layOrdersAndDeletes_149 : decode prog_11_method_10_code 149 = .ok (.lconst 1, 1) := by decide +kernel
theorem d_Tx_layOrdersAndDeletes_150 : decode prog_11_method_10_code 150 = .ok (.iload_n 1, 1) := by decide +kernel
theorem d_Tx_layOrdersAndDeletes_151 : decode prog_11_method_10_code 151 = .ok (.bipush 63, 2) := by decide +kernel
theorem d_Tx_layOrdersAndDeletes_153 : decode prog_11_method_10_code 153 = .ok (.iand, 1) := by decide +kernel
theorem d_Tx_layOrdersAndDeletes_154 : decode prog_11_method_10_code 154 = .ok (.lshl, 1) := by decide +kernel
theorem d_Tx_layOrdersAndDeletes_155 : decode prog_11_method_10_code 155 = .ok (.lor, 1) := by decide +kernel
theorem d_Tx_layOrdersAndDeletes_156 : decode prog_11_method_10_code 156 = .ok (.lastore, 1) := by decide +kernel
theorem d_Tx_layOrdersAndDeletes_157 : decode prog_11_method_10_code 157 = .ok (.iinc 2 1, 3) := by decide +kernel
theorem d_Tx_layOrdersAndDeletes_160 : decode prog_11_method_10_code 160 = .ok (.goto (-150), 3) := by decide +kernel
theorem d_Tx_layOrdersAndDeletes_163 : decode prog_11_method_10_code 163 = .ok (.return_, 1) := by decide +kernel
/-- the line that the ref at k of change c of patch p names -/
def lrR (S : Stk) (p c k l : Nat) : Prop := ∃ x, cnR S.f (S.dp p) S.FC p (S.nd p) c k x ∧ l = S.CL x + tw S.f (k + 4)
theorem lrR.uniq {S : Stk} {p c k l m : Nat} (hn : S.nd p ≤ 2048) (h1 : lrR S p c k l) (h2 : lrR S p c k m) : l = m := by
  obtain ⟨x, a, rfl⟩ := h1
  obtain ⟨y, b, rfl⟩ := h2
  rw [cnR.uniq hn a b]
theorem sInv.lref {S : Stk} (I : sInv S) {p j k y : Nat} (hp : p < S.P) (h : flR S.f (S.dp p) S.FC S.CA S.CF p (S.nd p) (S.FC p + j) k y) : ∃ x, cnR S.f (S.dp p) S.FC p (S.nd p) (S.FC p + j) k x ∧ x < S.FC p + j ∧ S.f (S.CA x) = 2 ∧ tw S.f (k + 4) < nLn S x ∧ S.CF x = y := by
  obtain ⟨x, a, b, d, e⟩ := h
  exact ⟨x, a, cnR.lt (fun q z => ((I.pi p hp).dep q z).1) (fun q z => Nat.le_trans (I.fcm (i := q + 1) (k := p) (by omega) (by omega)) (by omega)) a, b, d, e.symm⟩
/-- the order j of patch p, about file y -/
def oE (S : Stk) (y p j l m : Nat) : Prop := S.f (S.CA (S.FC p + j)) = 4 ∧ S.CF (S.FC p + j) = y ∧ lrR S p (S.FC p + j) (S.CA (S.FC p + j) + 1) l ∧ lrR S p (S.FC p + j) (S.CA (S.FC p + j) + 7) m
/-- the delete j of patch p, about file y -/
def dE (S : Stk) (y p j l : Nat) : Prop := S.f (S.CA (S.FC p + j)) = 3 ∧ S.CF (S.FC p + j) = y ∧ lrR S p (S.FC p + j) (S.CA (S.FC p + j) + 1) l
def oN (S : Stk) (y p n l m : Nat) : Prop := ∃ j, j < n ∧ oE S y p j l m
def dN (S : Stk) (y p n l : Nat) : Prop := ∃ j, j < n ∧ dE S y p j l
theorem oN_step {S : Stk} {y p n l m : Nat} : oN S y p (n + 1) l m ↔ oN S y p n l m ∨ oE S y p n l m := by
  constructor
  · rintro ⟨k, h1, h2⟩
    by_cases e : k = n
    · subst e; exact Or.inr h2
    · exact Or.inl ⟨k, by omega, h2⟩
  · rintro (⟨k, h1, h2⟩ | h)
    · exact ⟨k, by omega, h2⟩
    · exact ⟨n, by omega, h⟩
theorem dN_step {S : Stk} {y p n l : Nat} : dN S y p (n + 1) l ↔ dN S y p n l ∨ dE S y p n l := by
  constructor
  · rintro ⟨k, h1, h2⟩
    by_cases e : k = n
    · subst e; exact Or.inr h2
    · exact Or.inl ⟨k, by omega, h2⟩
  · rintro (⟨k, h1, h2⟩ | h)
    · exact ⟨k, by omega, h2⟩
    · exact ⟨n, by omega, h⟩
/-- the slots that are gone -/
def gR (go : Nat → Int32) (L : List Nat) (D : Nat → Prop) : Prop := ∀ a, a < L.length → (go a = 1 ∧ D (L.getD a 0)) ∨ (go a = 0 ∧ ¬ D (L.getD a 0))
/-- who deletes the lines of the slots -/
def dR (de : Nat → Int64) (L : List Nat) (D : Nat → Nat → Prop) : Prop := ∀ a q, a < L.length → q < 512 → (btr de (a * 8) q = true ↔ D (L.getD a 0) q)
theorem gR.iff {go : Nat → Int32} {L : List Nat} {D D' : Nat → Prop} (h : gR go L D) (e : ∀ l, D l ↔ D' l) : gR go L D' := fun a ha => (h a ha).elim (fun z => Or.inl ⟨z.1, (e _).mp z.2⟩) (fun z => Or.inr ⟨z.1, fun w => z.2 ((e _).mpr w)⟩)
theorem dR.iff {de : Nat → Int64} {L : List Nat} {D D' : Nat → Nat → Prop} (h : dR de L D) (e : ∀ l q, D l q ↔ D' l q) : dR de L D' := fun a q ha hq => (h a q ha hq).trans (e _ _)
theorem gR.add {go sl : Nat → Int32} {L : List Nat} {D D' : Nat → Prop} {sa : Nat} (h : gR go L D) (hs : slR sl L) (hl : L.length ≤ 400) (ha : sa < L.length) (e : ∀ l, D' l ↔ D l ∨ l = L.getD sa 0) : gR (upd go sa 1) L D' := by
  intro a ha2
  by_cases z : a = sa
  · subst z
    rw [upd_eq]
    exact Or.inl ⟨rfl, (e _).mpr (Or.inr rfl)⟩
  · rw [upd_ne _ z]
    rcases h a ha2 with ⟨z1, z2⟩ | ⟨z1, z2⟩
    · exact Or.inl ⟨z1, (e _).mpr (Or.inl z2)⟩
    · refine Or.inr ⟨z1, fun w => ?_⟩
      rcases (e _).mp w with w | w
      · exact z2 w
      · exact z (hs.inj hl ha2 ha w)
theorem dR.add {de : Nat → Int64} {sl : Nat → Int32} {L : List Nat} {D D' : Nat → Nat → Prop} {sa p : Nat} (h : dR de L D) (hs : slR sl L) (hl : L.length ≤ 400) (ha : sa < L.length) (hp : p < 500) (e : ∀ l q, D' l q ↔ D l q ∨ (l = L.getD sa 0 ∧ q = p)) : dR (btr_in de (sa * 8) p) L D' := by
  intro a q ha2 hq
  rw [e]
  by_cases z : a = sa
  · subst z
    rw [btr_in_at, Bool.or_eq_true, h a q ha2 hq, decide_eq_true_iff]
    exact ⟨fun w => w.elim Or.inl (fun w => Or.inr ⟨rfl, w⟩), fun w => w.elim Or.inl (fun w => Or.inr w.2)⟩
  · rw [btr_in_ne _ (by omega), h a q ha2 hq]
    exact ⟨Or.inl, fun w => w.elim id (fun w => absurd (hs.inj hl ha2 ha w.1) z)⟩
theorem dR.zero {de : Nat → Int64} {L : List Nat} (h : ∀ k, k < L.length * 8 → de k = 0) : dR de L (fun _ _ => False) := fun a q ha hq => by
  rw [btr_zero (h _ (by omega))]
  simp
theorem gR.zero {go : Nat → Int32} {L : List Nat} (h : ∀ k, k < L.length → go k = 0) : gR go L (fun _ => False) := fun a ha => Or.inr ⟨h a ha, id⟩
/-- the refs of the orders and deletes of patch p lead to lines of the graph -/
def rfOK (S : Stk) (y p : Nat) (L : List Nat) : Prop := ∀ j, j < S.nT p → (∀ l m, oE S y p j l m → l ∈ L ∧ m ∈ L) ∧ ∀ l, dE S y p j l → l ∈ L
theorem lE_iff {L : List Nat} {Q Q₇ : Nat → Nat → Prop} (h : ∀ l m, Q l m ↔ Q₇ l m) (a b : Nat) : lE L Q a b ↔ lE L Q₇ a b := ⟨fun z => ⟨z.1, (h _ _).mp z.2⟩, fun z => ⟨z.1, (h _ _).mpr z.2⟩⟩
theorem oN_no {S : Stk} {y p j : Nat} {Q : Nat → Nat → Prop} (h : ∀ l m, ¬ oE S y p j l m) (l m : Nat) : (Q l m ∨ oN S y p j l m) ↔ (Q l m ∨ oN S y p (j + 1) l m) := by
  rw [oN_step]
  exact ⟨fun z => z.elim Or.inl (fun z => Or.inr (Or.inl z)), fun z => z.elim Or.inl (fun z => z.elim Or.inr (fun z => absurd z (h l m)))⟩
theorem dN_no {S : Stk} {y p j : Nat} {Q : Nat → Prop} (h : ∀ l, ¬ dE S y p j l) (l : Nat) : (Q l ∨ dN S y p j l) ↔ (Q l ∨ dN S y p (j + 1) l) := by
  rw [dN_step]
  exact ⟨fun z => z.elim Or.inl (fun z => Or.inr (Or.inl z)), fun z => z.elim Or.inl (fun z => z.elim Or.inr (fun z => absurd z (h l)))⟩
theorem dN_no2 {S : Stk} {y p j : Nat} {Q : Nat → Nat → Prop} (h : ∀ l, ¬ dE S y p j l) (l q : Nat) : (Q l q ∨ (q = p ∧ dN S y p j l)) ↔ (Q l q ∨ (q = p ∧ dN S y p (j + 1) l)) := by
  rw [dN_step]
  exact ⟨fun z => z.elim Or.inl (fun z => Or.inr ⟨z.1, Or.inl z.2⟩), fun z => z.elim Or.inl (fun z => z.2.elim (fun w => Or.inr ⟨z.1, w⟩) (fun w => absurd w (h l)))⟩
theorem oN_yes {S : Stk} {y p j u v : Nat} {Q : Nat → Nat → Prop} (hn : S.nd p ≤ 2048) (h : oE S y p j u v) (l m : Nat) : (Q l m ∨ oN S y p (j + 1) l m) ↔ ((Q l m ∨ oN S y p j l m) ∨ (l = u ∧ m = v)) := by
  rw [oN_step, or_assoc]
  have e : oE S y p j l m ↔ (l = u ∧ m = v) := ⟨fun z => ⟨z.2.2.1.uniq hn h.2.2.1, z.2.2.2.uniq hn h.2.2.2⟩, fun z => by rw [z.1, z.2]; exact h⟩
  rw [e]
theorem dN_yes {S : Stk} {y p j u : Nat} {Q : Nat → Prop} (hn : S.nd p ≤ 2048) (h : dE S y p j u) (l : Nat) : (Q l ∨ dN S y p (j + 1) l) ↔ ((Q l ∨ dN S y p j l) ∨ l = u) := by
  rw [dN_step, or_assoc]
  have e : dE S y p j l ↔ l = u := ⟨fun z => z.2.2.uniq hn h.2.2, fun z => by rw [z]; exact h⟩
  rw [e]
theorem dN_yes2 {S : Stk} {y p j u : Nat} {Q : Nat → Nat → Prop} (hn : S.nd p ≤ 2048) (h : dE S y p j u) (l q : Nat) : (Q l q ∨ (q = p ∧ dN S y p (j + 1) l)) ↔ ((Q l q ∨ (q = p ∧ dN S y p j l)) ∨ (l = u ∧ q = p)) := by
  rw [dN_step]
  have e : dE S y p j l ↔ l = u := ⟨fun z => z.2.2.uniq hn h.2.2, fun z => by rw [z]; exact h⟩
  rw [e]
  constructor
  · rintro (z | ⟨z, w | w⟩)
    · exact Or.inl (Or.inl z)
    · exact Or.inl (Or.inr ⟨z, w⟩)
    · exact Or.inr ⟨w, z⟩
  · rintro ((z | ⟨z, w⟩) | ⟨w, z⟩)
    · exact Or.inl z
    · exact Or.inr ⟨z, Or.inl w⟩
    · exact Or.inr ⟨z, Or.inr w⟩
set_option maxHeartbeats 4000000 in
set_option maxRecDepth 100000 in
/-- the orders and deletes of a patch -/
theorem m_Tx_layOrders (l : Launch) (dC : Nat → ClassId) (dI : Nat → Nat → Nat) (cI cB cL cZ cR : ClassId) (h sk b_y fdA dpA fcA ch cat cfA flA tsA reA goA deA : Nat) (tx_order tx_length tx_size tx_unsure tx_stranded tx_dead tx_lines tx_loaded tx_version tx_rows tx_total tx_waits sk_from sk_hashes sk_byHash sk_leansOn sk_leantBy sk_lines sk_patches ch_patch ch_adds ch_files : Value) (Z : StkA) (S : Stk) (sl go : Nat → Int32) (re de : Nat → Int64) (L : List Nat) (QQ : Nat → Nat → Prop) (G : Nat → Prop) (DD : Nat → Nat → Prop) (yf pp : Nat) (sz : Nat) (I : sInv S) (R : rep S Z) (hp9 : pp < S.P) (hyf : yf < 40000) (hsl : slR sl L) (hL4 : L.length ≤ 400) (hL5 : ∀ x, x ∈ L → x < 4000) (hrf : rfOK S yf pp L) (hq01 : bR re L.length (lE L QQ)) (hq02 : gR go L G) (hq03 : dR de L DD) : Met l y_Tx_layOrdersAndDeletes ws_Tx_layOrdersAndDeletes ({ frames := 3, cells := 0, slots := 0, locals := 200 }) (xw_Pc dC dI [(cI, .int), (cB, .byte), (cL, .long), (cZ, .boolean), (cR, .object "PatchStore$Repository")] [.ref h, .int (nI pp)] [(h, .inr (10, [tx_order, tx_length, tx_size, tx_unsure, tx_stranded, tx_dead, .ref sk, .ref ch, tx_lines, tx_loaded, tx_version, .int (nI yf), tx_rows, .ref tsA, tx_total, .ref reA, .ref deA, .ref goA, tx_waits])), (sk, .inr (9, [.ref b_y, sk_from, .ref fdA, .ref fcA, .ref dpA, sk_hashes, sk_byHash, sk_leansOn, sk_leantBy, .ref ch, sk_lines, sk_patches])), (b_y, .inl (cB, 290000, .inl S.f)), (fdA, .inl (cI, 502, .inl Z.fd)), (dpA, .inl (cI, 8400, .inl Z.dp)), (fcA, .inl (cI, 502, .inl Z.fc)), (ch, .inr (1, [.ref cat, ch_patch, .ref cfA, .ref flA, ch_adds, ch_files])), (cat, .inl (cI, 38000, .inl Z.ca)), (cfA, .inl (cI, 38000, .inl Z.cf)), (flA, .inl (cI, 38000, .inl Z.fl)), (tsA, .inl (cI, 4000, .inl sl)), (reA, .inl (cL, 2800, .inr (.inl re))), (goA, .inl (cI, 400, .inl go)), (deA, .inl (cL, 3200, .inr (.inl de)))] sz) (va_Qv (fun u : (Nat → Int64) × (Nat → Int32) × (Nat → Int64) => bR u.1 L.length (lE L (fun l m => QQ l m ∨ oN S yf pp (S.nT pp) l m)) ∧ gR u.2.1 L (fun l => G l ∨ dN S yf pp (S.nT pp) l) ∧ dR u.2.2 L (fun l q => DD l q ∨ (q = pp ∧ dN S yf pp (S.nT pp) l))) (fun u t => xw_B dC dI [(cI, .int), (cB, .byte), (cL, .long), (cZ, .boolean), (cR, .object "PatchStore$Repository")] (va_A [(h, .inr (10, [tx_order, tx_length, tx_size, tx_unsure, tx_stranded, tx_dead, .ref sk, .ref ch, tx_lines, tx_loaded, tx_version, .int (nI yf), tx_rows, .ref tsA, tx_total, .ref reA, .ref deA, .ref goA, tx_waits])), (sk, .inr (9, [.ref b_y, sk_from, .ref fdA, .ref fcA, .ref dpA, sk_hashes, sk_byHash, sk_leansOn, sk_leantBy, .ref ch, sk_lines, sk_patches])), (b_y, .inl (cB, 290000, .inl S.f)), (fdA, .inl (cI, 502, .inl Z.fd)), (dpA, .inl (cI, 8400, .inl Z.dp)), (fcA, .inl (cI, 502, .inl Z.fc)), (ch, .inr (1, [.ref cat, ch_patch, .ref cfA, .ref flA, ch_adds, ch_files])), (cat, .inl (cI, 38000, .inl Z.ca)), (cfA, .inl (cI, 38000, .inl Z.cf)), (flA, .inl (cI, 38000, .inl Z.fl)), (tsA, .inl (cI, 4000, .inl sl)), (reA, .inl (cL, 2800, .inr (.inl re))), (goA, .inl (cI, 400, .inl go)), (deA, .inl (cL, 3200, .inr (.inl de)))] sz) [(h, .inr (10, [tx_order, tx_length, tx_size, tx_unsure, tx_stranded, tx_dead, .ref sk, .ref ch, tx_lines, tx_loaded, tx_version, .int (nI yf), tx_rows, .ref tsA, tx_total, .ref reA, .ref deA, .ref goA, tx_waits])), (sk, .inr (9, [.ref b_y, sk_from, .ref fdA, .ref fcA, .ref dpA, sk_hashes, sk_byHash, sk_leansOn, sk_leantBy, .ref ch, sk_lines, sk_patches])), (b_y, .inl (cB, 290000, .inl S.f)), (fdA, .inl (cI, 502, .inl Z.fd)), (dpA, .inl (cI, 8400, .inl Z.dp)), (fcA, .inl (cI, 502, .inl Z.fc)), (ch, .inr (1, [.ref cat, ch_patch, .ref cfA, .ref flA, ch_adds, ch_files])), (cat, .inl (cI, 38000, .inl Z.ca)), (cfA, .inl (cI, 38000, .inl Z.cf)), (flA, .inl (cI, 38000, .inl Z.fl)), (tsA, .inl (cI, 4000, .inl sl)), (reA, .inl (cL, 2800, .inr (.inl u.1))), (goA, .inl (cI, 400, .inl u.2.1)), (deA, .inl (cL, 3200, .inr (.inl u.2.2)))] t) (va_A [(h, .inr (10, [tx_order, tx_length, tx_size, tx_unsure, tx_stranded, tx_dead, .ref sk, .ref ch, tx_lines, tx_loaded, tx_version, .int (nI yf), tx_rows, .ref tsA, tx_total, .ref reA, .ref deA, .ref goA, tx_waits])), (sk, .inr (9, [.ref b_y, sk_from, .ref fdA, .ref fcA, .ref dpA, sk_hashes, sk_byHash, sk_leansOn, sk_leantBy, .ref ch, sk_lines, sk_patches])), (b_y, .inl (cB, 290000, .inl S.f)), (fdA, .inl (cI, 502, .inl Z.fd)), (dpA, .inl (cI, 8400, .inl Z.dp)), (fcA, .inl (cI, 502, .inl Z.fc)), (ch, .inr (1, [.ref cat, ch_patch, .ref cfA, .ref flA, ch_adds, ch_files])), (cat, .inl (cI, 38000, .inl Z.ca)), (cfA, .inl (cI, 38000, .inl Z.cf)), (flA, .inl (cI, 38000, .inl Z.fl)), (tsA, .inl (cI, 4000, .inl sl)), (reA, .inl (cL, 2800, .inr (.inl re))), (goA, .inl (cI, 400, .inl go)), (deA, .inl (cL, 3200, .inr (.inl de)))] sz)) 0 0 (va_A [(h, .inr (10, [tx_order, tx_length, tx_size, tx_unsure, tx_stranded, tx_dead, .ref sk, .ref ch, tx_lines, tx_loaded, tx_version, .int (nI yf), tx_rows, .ref tsA, tx_total, .ref reA, .ref deA, .ref goA, tx_waits])), (sk, .inr (9, [.ref b_y, sk_from, .ref fdA, .ref fcA, .ref dpA, sk_hashes, sk_byHash, sk_leansOn, sk_leantBy, .ref ch, sk_lines, sk_patches])), (b_y, .inl (cB, 290000, .inl S.f)), (fdA, .inl (cI, 502, .inl Z.fd)), (dpA, .inl (cI, 8400, .inl Z.dp)), (fcA, .inl (cI, 502, .inl Z.fc)), (ch, .inr (1, [.ref cat, ch_patch, .ref cfA, .ref flA, ch_adds, ch_files])), (cat, .inl (cI, 38000, .inl Z.ca)), (cfA, .inl (cI, 38000, .inl Z.cf)), (flA, .inl (cI, 38000, .inl Z.fl)), (tsA, .inl (cI, 4000, .inl sl)), (reA, .inl (cL, 2800, .inr (.inl re))), (goA, .inl (cI, 400, .inl go)), (deA, .inl (cL, 3200, .inr (.inl de)))] sz) := by
  refine Met.ofW (cc := prog_11_method_10_code) (maxL := 6) (ret := none) (by decide) rfl ?_
  intro p e s m args below meth c s₁ B hml hv
  obtain ⟨rfl, hsz, hP, hK, hD0⟩ := hv
  have hx := B.exec
  have hb := B.bytes
  have hr := B.returns
  have hts0 := atoms_spec (ws := ws_Tx_layOrdersAndDeletes) B.pre
  have hts : ∀ w ∈ xg_1, w.before _ s = true := fun w h => hts0 w (List.mem_cons_of_mem _ h)
  have hown : s.vm.findClass "PatchStore$Text" = some m.cls := findClass_of_methodNamed B.named
  have hlocks := B.notSynchronized
  subst hsz
  have hD := hD0.self (sz := s.heap.size)
  generalize hAe : va_A [(h, .inr (10, [tx_order, tx_length, tx_size, tx_unsure, tx_stranded, tx_dead, .ref sk, .ref ch, tx_lines, tx_loaded, tx_version, .int (nI yf), tx_rows, .ref tsA, tx_total, .ref reA, .ref deA, .ref goA, tx_waits])), (sk, .inr (9, [.ref b_y, sk_from, .ref fdA, .ref fcA, .ref dpA, sk_hashes, sk_byHash, sk_leansOn, sk_leantBy, .ref ch, sk_lines, sk_patches])), (b_y, .inl (cB, 290000, .inl S.f)), (fdA, .inl (cI, 502, .inl Z.fd)), (dpA, .inl (cI, 8400, .inl Z.dp)), (fcA, .inl (cI, 502, .inl Z.fc)), (ch, .inr (1, [.ref cat, ch_patch, .ref cfA, .ref flA, ch_adds, ch_files])), (cat, .inl (cI, 38000, .inl Z.ca)), (cfA, .inl (cI, 38000, .inl Z.cf)), (flA, .inl (cI, 38000, .inl Z.fl)), (tsA, .inl (cI, 4000, .inl sl)), (reA, .inl (cL, 2800, .inr (.inl re))), (goA, .inl (cI, 400, .inl go)), (deA, .inl (cL, 3200, .inr (.inl de)))] s.heap.size = A at hD ⊢
  have hA : ∀ q : Nat, s.heap.size ≤ q → A q := fun q h => by rw [← hAe]; exact Or.inr h
  have hS : va_S A s.heap s.heap [] := va_S.rf
  have hl := lv_entry ([.ref h, .int (nI pp)]) (n := 6) (Nat.le_of_ble_eq_true rfl)
  rw [lg_entry_eq]
  generalize (lg_sl ([.ref h, .int (nI pp)]) ++ List.replicate (6 - (lg_sl ([.ref h, .int (nI pp)])).length) Slot.unset).toArray = ls at hl ⊢
  have hl : lv_has ls 6 [(0, .ref h), (1, .int (nI pp))] := hl
  generalize hQe : MQ _ _ _ _ _ _ _ = Q
  obtain ⟨hb1, hb2, hb3, hb4, hb5⟩ := I.bounds hp9
  have hb6 := I.hP
  have hnd5 : S.nd pp ≤ 2048 := by omega
  have hpi := I.pi pp hp9
  have hgD : ∀ i, i < S.nd pp → Z.dp (S.FD pp + i) = nI (S.dp pp i) ∧ S.dp pp i < pp := fun i z => ⟨R.dp _ (by have := hpi.fd; have := I.fdm (i := pp + 1) (k := S.P) (by omega) (Nat.le_refl _); omega), (hpi.dep i z).1⟩
  refine lv_aload_n hx hb d_Tx_layOrdersAndDeletes_0 rfl (lv_at hl 0 rfl) ?_
  refine va_get (D := (dC, dI)) (ci := 10) (v := .ref sk) (C := R_Tx) (T := F_Tx) (N := 19) hx hb hts i_Tx hown hK hP 0 rfl rfl 6 (by decide) (hts _ gw_388) (fun _ h9 => h9) rfl d_Tx_layOrdersAndDeletes_1 ?_
  refine va_get (D := (dC, dI)) (ci := 9) (v := .ref fcA) (C := R_St) (T := F_St) (N := 12) hx hb hts i_St hown hK hP 1 rfl rfl 3 (by decide) (hts _ gw_199) (fun _ h9 => h9) rfl d_Tx_layOrdersAndDeletes_4 ?_
  refine lv_iload_n hx hb d_Tx_layOrdersAndDeletes_7 rfl (lv_at hl 1 rfl) ?_
  refine va_iald hx hb hK hP 5 0 rfl rfl (vp_in_nI (by omega) (by omega)) d_Tx_layOrdersAndDeletes_8 ?_
  rw [show (nI pp).toNatClampNeg = pp from nI_clamp (by omega)]
  refine lv_topi (fun x_1 ex_1 => ?_)
  obtain rfl : x_1 = nI (S.FC pp) := by rw [ex_1]; first | done | (exact R.fc pp (by omega))
  refine lv_istore_n (lv' := [(2, .int (nI (S.FC pp))), (0, .ref h), (1, .int (nI pp))]) hx hb d_Tx_layOrdersAndDeletes_9 rfl hl (by decide) rfl (fun ls hl => ?_)
  have loop_10 : ∀ (n9 : Nat) (j : Nat) (reu : Nat → Int64) (gou : Nat → Int32) (deu : Nat → Int64) (H : Heap) (locs : List Loc) (ls : Array Slot), S.nT pp - j < n9 → (j ≤ S.nT pp) → (bR reu L.length (lE L (fun l m => QQ l m ∨ oN S yf pp j l m))) → (gR gou L (fun l => G l ∨ dN S yf pp j l)) → (dR deu L (fun l q => DD l q ∨ (q = pp ∧ dN S yf pp j l))) → va_P (dC, dI) classes [(h, .inr (10, [tx_order, tx_length, tx_size, tx_unsure, tx_stranded, tx_dead, .ref sk, .ref ch, tx_lines, tx_loaded, tx_version, .int (nI yf), tx_rows, .ref tsA, tx_total, .ref reA, .ref deA, .ref goA, tx_waits])), (sk, .inr (9, [.ref b_y, sk_from, .ref fdA, .ref fcA, .ref dpA, sk_hashes, sk_byHash, sk_leansOn, sk_leantBy, .ref ch, sk_lines, sk_patches])), (b_y, .inl (cB, 290000, .inl S.f)), (fdA, .inl (cI, 502, .inl Z.fd)), (dpA, .inl (cI, 8400, .inl Z.dp)), (fcA, .inl (cI, 502, .inl Z.fc)), (ch, .inr (1, [.ref cat, ch_patch, .ref cfA, .ref flA, ch_adds, ch_files])), (cat, .inl (cI, 38000, .inl Z.ca)), (cfA, .inl (cI, 38000, .inl Z.cf)), (flA, .inl (cI, 38000, .inl Z.fl)), (tsA, .inl (cI, 4000, .inl sl)), (reA, .inl (cL, 2800, .inr (.inl reu))), (goA, .inl (cI, 400, .inl gou)), (deA, .inl (cL, 3200, .inr (.inl deu)))] H → va_D A [(h, .inr (10, [tx_order, tx_length, tx_size, tx_unsure, tx_stranded, tx_dead, .ref sk, .ref ch, tx_lines, tx_loaded, tx_version, .int (nI yf), tx_rows, .ref tsA, tx_total, .ref reA, .ref deA, .ref goA, tx_waits])), (sk, .inr (9, [.ref b_y, sk_from, .ref fdA, .ref fcA, .ref dpA, sk_hashes, sk_byHash, sk_leansOn, sk_leantBy, .ref ch, sk_lines, sk_patches])), (b_y, .inl (cB, 290000, .inl S.f)), (fdA, .inl (cI, 502, .inl Z.fd)), (dpA, .inl (cI, 8400, .inl Z.dp)), (fcA, .inl (cI, 502, .inl Z.fc)), (ch, .inr (1, [.ref cat, ch_patch, .ref cfA, .ref flA, ch_adds, ch_files])), (cat, .inl (cI, 38000, .inl Z.ca)), (cfA, .inl (cI, 38000, .inl Z.cf)), (flA, .inl (cI, 38000, .inl Z.fl)), (tsA, .inl (cI, 4000, .inl sl)), (reA, .inl (cL, 2800, .inr (.inl reu))), (goA, .inl (cI, 400, .inl gou)), (deA, .inl (cL, 3200, .inr (.inl deu)))] → va_S A s.heap H locs → lv_has ls 6 [(0, .ref h), (1, .int (nI pp)), (2, .int (nI (S.FC pp + j)))] → W p l e (headSpec ws_Tx_layOrdersAndDeletes ({ frames := 3, cells := 0, slots := 0, locals := 200 })).room s m ([.ref h, .int (nI pp)] : List Value).toArray below meth c H locs 0 0 Q (F0 m 10 ls []) := by
    intro n9
    induction n9 with
    | zero => intro j reu gou deu H locs ls hm; exact absurd hm (Nat.not_lt_zero _)
    | succ n9 ih_10 =>
      intro j reu gou deu H locs ls hm hj hq1 hq2 hq3 hP hD hS hl
      refine lv_iload_n hx hb d_Tx_layOrdersAndDeletes_10 rfl (lv_at hl 2 rfl) ?_
      refine lv_aload_n hx hb d_Tx_layOrdersAndDeletes_11 rfl (lv_at hl 0 rfl) ?_
      refine va_get (D := (dC, dI)) (ci := 10) (v := .ref sk) (C := R_Tx) (T := F_Tx) (N := 19) hx hb hts i_Tx hown hK hP 0 rfl rfl 6 (by decide) (hts _ gw_388) (fun _ h9 => h9) rfl d_Tx_layOrdersAndDeletes_12 ?_
      refine va_get (D := (dC, dI)) (ci := 9) (v := .ref fcA) (C := R_St) (T := F_St) (N := 12) hx hb hts i_St hown hK hP 1 rfl rfl 3 (by decide) (hts _ gw_199) (fun _ h9 => h9) rfl d_Tx_layOrdersAndDeletes_15 ?_
      refine lv_iload_n hx hb d_Tx_layOrdersAndDeletes_18 rfl (lv_at hl 1 rfl) ?_
      refine lv_iconst (v := 1) hx hb d_Tx_layOrdersAndDeletes_19 (by decide) ?_
      refine lv_iadd hx hb d_Tx_layOrdersAndDeletes_20 ?_
      refine lv_topi (fun x_2 ex_2 => ?_)
      obtain rfl : x_2 = nI (pp + 1) := by rw [ex_2]; first | done | (exact nI_add _ _)
      refine va_iald hx hb hK hP 5 0 rfl rfl (vp_in_nI (by omega) (by omega)) d_Tx_layOrdersAndDeletes_21 ?_
      rw [show (nI (pp + 1)).toNatClampNeg = (pp + 1) from nI_clamp (by omega)]
      refine lv_topi (fun x_3 ex_3 => ?_)
      obtain rfl : x_3 = nI (S.FC pp + S.nT pp) := by rw [ex_3]; first | done | (rw [R.fc (pp + 1) (by omega), hpi.fc])
      refine lv_icmp_ge (tgt := 163) hx hb d_Tx_layOrdersAndDeletes_22 (by decide) (fun c_22 => ?_) (fun c_22 => ?_)
      · have n_22 : (S.FC pp + S.nT pp) ≤ (S.FC pp + j) := (nI_leI (a := (S.FC pp + S.nT pp)) (b := (S.FC pp + j)) (by omega) (by omega)).mp c_22
        have hjT : j = S.nT pp := by omega
        rw [hjT] at hq1 hq2 hq3
        rw [← hQe]
        exact W.vret hx hb hr (fun t ht hW => ⟨⟨(reu, gou, deu), rfl, ⟨hq1, hq2, hq3⟩, by rw [ht]; exact hP, va_K.moved hW.alike hK, hD⟩, hS.F ht⟩) hS.2.2 d_Tx_layOrdersAndDeletes_163
      · have n_22 : (S.FC pp + j) < (S.FC pp + S.nT pp) := Nat.lt_of_not_le (fun z => c_22 ((nI_leI (a := (S.FC pp + S.nT pp)) (b := (S.FC pp + j)) (by omega) (by omega)).mpr z))
        have hga := R.ca (S.FC pp + j) (by omega)
        have hcw := I.chw (k := pp + 1) (by omega) (x := (S.FC pp + j)) (by rw [hpi.fc]; omega)
        have hcw1 := hcw.1
        have hcf := I.cfl (i := (S.FC pp + j)) (by omega)
        have hnf := I.nfP
        refine lv_aload_n hx hb d_Tx_layOrdersAndDeletes_25 rfl (lv_at hl 0 rfl) ?_
        refine va_get (D := (dC, dI)) (ci := 10) (v := .ref ch) (C := R_Tx) (T := F_Tx) (N := 19) hx hb hts i_Tx hown hK hP 0 rfl rfl 7 (by decide) (hts _ gw_389) (fun _ h9 => h9) rfl d_Tx_layOrdersAndDeletes_26 ?_
        refine va_get (D := (dC, dI)) (ci := 1) (v := .ref cfA) (C := R_Ch) (T := F_Ch) (N := 6) hx hb hts i_Ch hown hK hP 6 rfl rfl 2 (by decide) (hts _ gw_101) (fun _ h9 => h9) rfl d_Tx_layOrdersAndDeletes_29 ?_
        refine lv_iload_n hx hb d_Tx_layOrdersAndDeletes_32 rfl (lv_at hl 2 rfl) ?_
        refine va_iald hx hb hK hP 8 0 rfl rfl (vp_in_nI (by omega) (by omega)) d_Tx_layOrdersAndDeletes_33 ?_
        rw [show (nI (S.FC pp + j)).toNatClampNeg = (S.FC pp + j) from nI_clamp (by omega)]
        refine lv_topi (fun x_4 ex_4 => ?_)
        obtain rfl : x_4 = nI (S.CF (S.FC pp + j)) := by rw [ex_4]; first | done | (exact R.cf (S.FC pp + j) (by omega))
        refine lv_aload_n hx hb d_Tx_layOrdersAndDeletes_34 rfl (lv_at hl 0 rfl) ?_
        refine va_get (D := (dC, dI)) (ci := 10) (v := .int (nI yf)) (C := R_Tx) (T := F_Tx) (N := 19) hx hb hts i_Tx hown hK hP 0 rfl rfl 11 (by decide) (hts _ gw_393) (fun _ h9 => h9) rfl d_Tx_layOrdersAndDeletes_35 ?_
        refine lv_icmp_eq (tgt := 44) hx hb d_Tx_layOrdersAndDeletes_38 (by decide) (fun c_38 => ?_) (fun c_38 => ?_)
        · have n_38 : (S.CF (S.FC pp + j)) = yf := (nI_eq (a := (S.CF (S.FC pp + j))) (b := yf) (by omega) (by omega)).mp c_38
          refine lv_aload_n hx hb d_Tx_layOrdersAndDeletes_44 rfl (lv_at hl 0 rfl) ?_
          refine va_get (D := (dC, dI)) (ci := 10) (v := .ref sk) (C := R_Tx) (T := F_Tx) (N := 19) hx hb hts i_Tx hown hK hP 0 rfl rfl 6 (by decide) (hts _ gw_388) (fun _ h9 => h9) rfl d_Tx_layOrdersAndDeletes_45 ?_
          refine lv_iload_n hx hb d_Tx_layOrdersAndDeletes_48 rfl (lv_at hl 2 rfl) ?_
          have hPc := hP.sub (ws' := [(sk, .inr (9, [.ref b_y, sk_from, .ref fdA, .ref fcA, .ref dpA, sk_hashes, sk_byHash, sk_leansOn, sk_leantBy, .ref ch, sk_lines, sk_patches])), (b_y, .inl (cB, 290000, .inl S.f)), (ch, .inr (1, [.ref cat, ch_patch, .ref cfA, .ref flA, ch_adds, ch_files])), (cat, .inl (cI, 38000, .inl Z.ca))]) [1, 2, 6, 7] rfl
          have hDc := hD.sub (ws' := [(sk, .inr (9, [.ref b_y, sk_from, .ref fdA, .ref fcA, .ref dpA, sk_hashes, sk_byHash, sk_leansOn, sk_leantBy, .ref ch, sk_lines, sk_patches])), (b_y, .inl (cB, 290000, .inl S.f)), (ch, .inr (1, [.ref cat, ch_patch, .ref cfA, .ref flA, ch_adds, ch_files])), (cat, .inl (cI, 38000, .inl Z.ca))]) [1, 2, 6, 7] (by decide) rfl
          have hFc := va_free (wc := [(sk, .inr (9, [.ref b_y, sk_from, .ref fdA, .ref fcA, .ref dpA, sk_hashes, sk_byHash, sk_leansOn, sk_leantBy, .ref ch, sk_lines, sk_patches])), (b_y, .inl (cB, 290000, .inl S.f)), (ch, .inr (1, [.ref cat, ch_patch, .ref cfA, .ref flA, ch_adds, ch_files])), (cat, .inl (cI, 38000, .inl Z.ca))]) hD hS hA [1, 2, 6, 7] rfl
          refine va_calli (va_runV (As := [.int (nI (S.FC pp + j))]) (rest := []) ⟨hx, hb, hml, hown, hts⟩ (m_St_kind l dC dI cI cB cL cZ cR sk b_y ch cat (sk_from) (.ref fdA) (.ref fcA) (.ref dpA) (sk_hashes) (sk_byHash) (sk_leansOn) (sk_leantBy) (sk_lines) (sk_patches) (ch_patch) (.ref cfA) (.ref flA) (ch_adds) (ch_files) S.f Z.ca (S.FC pp + j) (S.CA (S.FC pp + j)) H.size (by omega) hga (by omega)) (cwV 1 hts (xg_V gw_1057 gw_890 gw_891 gw_3 gw_892) rfl rfl rfl (by decide +kernel) ⟨Nat.le_of_ble_eq_true rfl, Nat.le_of_ble_eq_true rfl⟩) ⟨xw_blind, va_recv hK hPc (ci := 9) (q0 := 0) rfl rfl, fun U hU hW => ⟨rfl, by rw [hU], by rw [hU]; exact hPc, va_K.moved hW.alike hK, hDc.weaken (fun _ _ _ _ => trivial)⟩⟩ rfl rfl hl.1 rfl (lv_room (Nat.le_of_ble_eq_true rfl)) d_Tx_layOrdersAndDeletes_49 ⟨Nat.le_of_ble_eq_true rfl, Nat.le_of_ble_eq_true rfl⟩) hS (fun q _ h => hFc q h) hFc (fun r9 u t H1 locs ht hvm hw hB hz1 hk1 hS => ?_)
          obtain ⟨hP1, hK1, hD1⟩ := hB
          rw [ht] at hP1
          obtain ⟨hP, hD⟩ := va_join (wr := [(h, .inr (10, [tx_order, tx_length, tx_size, tx_unsure, tx_stranded, tx_dead, .ref sk, .ref ch, tx_lines, tx_loaded, tx_version, .int (nI yf), tx_rows, .ref tsA, tx_total, .ref reA, .ref deA, .ref goA, tx_waits])), (fdA, .inl (cI, 502, .inl Z.fd)), (dpA, .inl (cI, 8400, .inl Z.dp)), (fcA, .inl (cI, 502, .inl Z.fc)), (cfA, .inl (cI, 38000, .inl Z.cf)), (flA, .inl (cI, 38000, .inl Z.fl)), (tsA, .inl (cI, 4000, .inl sl)), (reA, .inl (cL, 2800, .inr (.inl reu))), (goA, .inl (cI, 400, .inl gou)), (deA, .inl (cL, 3200, .inr (.inl deu)))]) (w1 := [(sk, .inr (9, [.ref b_y, sk_from, .ref fdA, .ref fcA, .ref dpA, sk_hashes, sk_byHash, sk_leansOn, sk_leantBy, .ref ch, sk_lines, sk_patches])), (b_y, .inl (cB, 290000, .inl S.f)), (ch, .inr (1, [.ref cat, ch_patch, .ref cfA, .ref flA, ch_adds, ch_files])), (cat, .inl (cI, 38000, .inl Z.ca))]) hP hD [1, 2, 6, 7] [0, 3, 4, 5, 8, 9, 10, 11, 12, 13] rfl rfl (by decide) (by decide) hk1 hFc hP1 hD1
          generalize H1 = H at hP hS ⊢
          have hP : va_P (dC, dI) classes [(h, .inr (10, [tx_order, tx_length, tx_size, tx_unsure, tx_stranded, tx_dead, .ref sk, .ref ch, tx_lines, tx_loaded, tx_version, .int (nI yf), tx_rows, .ref tsA, tx_total, .ref reA, .ref deA, .ref goA, tx_waits])), (fdA, .inl (cI, 502, .inl Z.fd)), (dpA, .inl (cI, 8400, .inl Z.dp)), (fcA, .inl (cI, 502, .inl Z.fc)), (cfA, .inl (cI, 38000, .inl Z.cf)), (flA, .inl (cI, 38000, .inl Z.fl)), (tsA, .inl (cI, 4000, .inl sl)), (reA, .inl (cL, 2800, .inr (.inl reu))), (goA, .inl (cI, 400, .inl gou)), (deA, .inl (cL, 3200, .inr (.inl deu))), (sk, .inr (9, [.ref b_y, sk_from, .ref fdA, .ref fcA, .ref dpA, sk_hashes, sk_byHash, sk_leansOn, sk_leantBy, .ref ch, sk_lines, sk_patches])), (b_y, .inl (cB, 290000, .inl S.f)), (ch, .inr (1, [.ref cat, ch_patch, .ref cfA, .ref flA, ch_adds, ch_files])), (cat, .inl (cI, 38000, .inl Z.ca))] H := hP
          have hD : va_D A [(h, .inr (10, [tx_order, tx_length, tx_size, tx_unsure, tx_stranded, tx_dead, .ref sk, .ref ch, tx_lines, tx_loaded, tx_version, .int (nI yf), tx_rows, .ref tsA, tx_total, .ref reA, .ref deA, .ref goA, tx_waits])), (fdA, .inl (cI, 502, .inl Z.fd)), (dpA, .inl (cI, 8400, .inl Z.dp)), (fcA, .inl (cI, 502, .inl Z.fc)), (cfA, .inl (cI, 38000, .inl Z.cf)), (flA, .inl (cI, 38000, .inl Z.fl)), (tsA, .inl (cI, 4000, .inl sl)), (reA, .inl (cL, 2800, .inr (.inl reu))), (goA, .inl (cI, 400, .inl gou)), (deA, .inl (cL, 3200, .inr (.inl deu))), (sk, .inr (9, [.ref b_y, sk_from, .ref fdA, .ref fcA, .ref dpA, sk_hashes, sk_byHash, sk_leansOn, sk_leantBy, .ref ch, sk_lines, sk_patches])), (b_y, .inl (cB, 290000, .inl S.f)), (ch, .inr (1, [.ref cat, ch_patch, .ref cfA, .ref flA, ch_adds, ch_files])), (cat, .inl (cI, 38000, .inl Z.ca))] := hD
          subst hw
          refine lv_istore_n (lv' := [(3, .int (S.f (S.CA (S.FC pp + j)))), (0, .ref h), (1, .int (nI pp)), (2, .int (nI (S.FC pp + j)))]) hx hb d_Tx_layOrdersAndDeletes_52 rfl hl (by decide) rfl (fun ls hl => ?_)
          refine lv_aload_n hx hb d_Tx_layOrdersAndDeletes_53 rfl (lv_at hl 1 rfl) ?_
          refine va_get (D := (dC, dI)) (ci := 10) (v := .ref ch) (C := R_Tx) (T := F_Tx) (N := 19) hx hb hts i_Tx hown hK hP 0 rfl rfl 7 (by decide) (hts _ gw_389) (fun _ h9 => h9) rfl d_Tx_layOrdersAndDeletes_54 ?_
          refine va_get (D := (dC, dI)) (ci := 1) (v := .ref cat) (C := R_Ch) (T := F_Ch) (N := 6) hx hb hts i_Ch hown hK hP 12 rfl rfl 0 (by decide) (hts _ gw_91) (fun _ h9 => h9) rfl d_Tx_layOrdersAndDeletes_57 ?_
          refine lv_iload_n hx hb d_Tx_layOrdersAndDeletes_60 rfl (lv_at hl 3 rfl) ?_
          refine va_iald hx hb hK hP 13 0 rfl rfl (vp_in_nI (by omega) (by omega)) d_Tx_layOrdersAndDeletes_61 ?_
          rw [show (nI (S.FC pp + j)).toNatClampNeg = (S.FC pp + j) from nI_clamp (by omega)]
          refine lv_topi (fun x_5 ex_5 => ?_)
          obtain rfl : x_5 = nI (S.CA (S.FC pp + j)) := by rw [ex_5]; first | done | (exact hga)
          refine lv_istore (lv' := [(4, .int (nI (S.CA (S.FC pp + j)))), (3, .int (S.f (S.CA (S.FC pp + j)))), (0, .ref h), (1, .int (nI pp)), (2, .int (nI (S.FC pp + j)))]) hx hb d_Tx_layOrdersAndDeletes_62 hl (by decide) rfl (fun ls hl => ?_)
          refine lv_iload_n hx hb d_Tx_layOrdersAndDeletes_64 rfl (lv_at hl 1 rfl) ?_
          refine lv_iconst (v := 4) hx hb d_Tx_layOrdersAndDeletes_65 (by decide) ?_
          refine lv_icmp_ne (tgt := 101) hx hb d_Tx_layOrdersAndDeletes_66 (by decide) (fun c_66 => ?_) (fun c_66 => ?_)
          · have hno : ∀ l m, ¬ oE S yf pp j l m := fun l m z => c_66 z.1
            refine lv_iload_n hx hb d_Tx_layOrdersAndDeletes_101 rfl (lv_at hl 1 rfl) ?_
            refine lv_iconst (v := 3) hx hb d_Tx_layOrdersAndDeletes_102 (by decide) ?_
            refine lv_icmp_ne (tgt := 157) hx hb d_Tx_layOrdersAndDeletes_103 (by decide) (fun c_103 => ?_) (fun c_103 => ?_)
            · have hnd9 : ∀ l, ¬ dE S yf pp j l := fun l z => c_103 z.1
              refine lv_iinc (v := nI (S.FC pp + j + 1)) (lv' := [(2, .int (nI (S.FC pp + j + 1))), (4, .int (nI (S.CA (S.FC pp + j)))), (3, .int (S.f (S.CA (S.FC pp + j)))), (0, .ref h), (1, .int (nI pp))]) hx hb d_Tx_layOrdersAndDeletes_157 hl (k := 4) rfl (by exact nI_add _ _) (by decide) rfl (fun ls hl => ?_)
              refine lv_goto (tgt := 10) hx hb d_Tx_layOrdersAndDeletes_160 (by decide) ?_
              exact ih_10 (j + 1) reu gou deu _ _ _ (by omega) (by omega) (hq1.iff (fun a b _ _ => lE_iff (oN_no hno) a b)) (hq2.iff (dN_no hnd9)) (hq3.iff (dN_no2 hnd9)) (hP.sub [0, 10, 11, 1, 2, 3, 12, 13, 4, 5, 6, 7, 8, 9] rfl) (hD.sub [0, 10, 11, 1, 2, 3, 12, 13, 4, 5, 6, 7, 8, 9] (by decide) rfl) hS (lv_sub hl [3, 4, 0] rfl)
            · have hdl := rsR_3 c_103 (hpi.rs j (by omega))
              have hcw4 := hcw.2.2.2.1 c_103
              refine lv_aload_n hx hb d_Tx_layOrdersAndDeletes_106 rfl (lv_at hl 2 rfl) ?_
              refine va_get (D := (dC, dI)) (ci := 10) (v := .ref tsA) (C := R_Tx) (T := F_Tx) (N := 19) hx hb hts i_Tx hown hK hP 0 rfl rfl 13 (by decide) (hts _ gw_395) (fun _ h9 => h9) rfl d_Tx_layOrdersAndDeletes_107 ?_
              refine lv_aload_n hx hb d_Tx_layOrdersAndDeletes_110 rfl (lv_at hl 2 rfl) ?_
              refine va_get (D := (dC, dI)) (ci := 10) (v := .ref sk) (C := R_Tx) (T := F_Tx) (N := 19) hx hb hts i_Tx hown hK hP 0 rfl rfl 6 (by decide) (hts _ gw_388) (fun _ h9 => h9) rfl d_Tx_layOrdersAndDeletes_111 ?_
              refine lv_iload_n hx hb d_Tx_layOrdersAndDeletes_114 rfl (lv_at hl 3 rfl) ?_
              refine lv_iload hx hb d_Tx_layOrdersAndDeletes_115 (lv_at hl 0 rfl) ?_
              refine lv_iconst (v := 1) hx hb d_Tx_layOrdersAndDeletes_117 (by decide) ?_
              refine lv_iadd hx hb d_Tx_layOrdersAndDeletes_118 ?_
              refine lv_topi (fun x_6 ex_6 => ?_)
              obtain rfl : x_6 = nI ((S.CA (S.FC pp + j)) + 1) := by rw [ex_6]; first | done | (exact nI_add _ _)
              obtain ⟨Xa, Xac, Xal, Xak, Xan, Xaf⟩ := I.lref hp9 hdl
              obtain ⟨Xao, Xap, Xax⟩ := cnR.own (fdf := Z.fd) (dpf := Z.dp) (D0 := S.FD pp) (by omega) (R.fd pp (by omega)) (by omega) hgD Xac
              have Xag := R.fl Xa (by omega) Xak
              have Xab := I.cll (i := Xa) (by omega)
              have Xat := tw_lt S.f ((S.CA (S.FC pp + j) + 1) + 4)
              have hPc := hP.sub (ws' := [(sk, .inr (9, [.ref b_y, sk_from, .ref fdA, .ref fcA, .ref dpA, sk_hashes, sk_byHash, sk_leansOn, sk_leantBy, .ref ch, sk_lines, sk_patches])), (b_y, .inl (cB, 290000, .inl S.f)), (fdA, .inl (cI, 502, .inl Z.fd)), (dpA, .inl (cI, 8400, .inl Z.dp)), (fcA, .inl (cI, 502, .inl Z.fc)), (ch, .inr (1, [.ref cat, ch_patch, .ref cfA, .ref flA, ch_adds, ch_files])), (flA, .inl (cI, 38000, .inl Z.fl))]) [10, 11, 1, 2, 3, 12, 5] rfl
              have hDc := hD.sub (ws' := [(sk, .inr (9, [.ref b_y, sk_from, .ref fdA, .ref fcA, .ref dpA, sk_hashes, sk_byHash, sk_leansOn, sk_leantBy, .ref ch, sk_lines, sk_patches])), (b_y, .inl (cB, 290000, .inl S.f)), (fdA, .inl (cI, 502, .inl Z.fd)), (dpA, .inl (cI, 8400, .inl Z.dp)), (fcA, .inl (cI, 502, .inl Z.fc)), (ch, .inr (1, [.ref cat, ch_patch, .ref cfA, .ref flA, ch_adds, ch_files])), (flA, .inl (cI, 38000, .inl Z.fl))]) [10, 11, 1, 2, 3, 12, 5] (by decide) rfl
              have hFc := va_free (wc := [(sk, .inr (9, [.ref b_y, sk_from, .ref fdA, .ref fcA, .ref dpA, sk_hashes, sk_byHash, sk_leansOn, sk_leantBy, .ref ch, sk_lines, sk_patches])), (b_y, .inl (cB, 290000, .inl S.f)), (fdA, .inl (cI, 502, .inl Z.fd)), (dpA, .inl (cI, 8400, .inl Z.dp)), (fcA, .inl (cI, 502, .inl Z.fc)), (ch, .inr (1, [.ref cat, ch_patch, .ref cfA, .ref flA, ch_adds, ch_files])), (flA, .inl (cI, 38000, .inl Z.fl))]) hD hS hA [10, 11, 1, 2, 3, 12, 5] rfl
              refine va_calli (va_runV (As := [.int (nI pp), .int (nI ((S.CA (S.FC pp + j)) + 1))]) (rest := [.ref tsA]) ⟨hx, hb, hml, hown, hts⟩ (m_St_lineNamed l dC dI cI cB cL cZ cR sk b_y fdA dpA fcA ch flA (sk_from) (sk_hashes) (sk_byHash) (sk_leansOn) (sk_leantBy) (sk_lines) (sk_patches) (.ref cat) (ch_patch) (.ref cfA) (ch_adds) (ch_files) S.f Z.fd Z.dp Z.fc Z.fl pp (S.CA (S.FC pp + j) + 1) (owN S.f (S.dp pp) pp (S.CA (S.FC pp + j) + 1)) (S.FC (owN S.f (S.dp pp) pp (S.CA (S.FC pp + j) + 1))) (S.CL Xa) H.size (by omega) (by omega) Xao (by omega) (R.fc _ (by omega)) (by rw [← Xax]; omega) (by rw [← Xax]; exact Xag)) (cwV 2 hts (xg_V gw_1080 gw_928 gw_929 gw_3 gw_930) rfl rfl rfl (by decide +kernel) ⟨Nat.le_of_ble_eq_true rfl, Nat.le_of_ble_eq_true rfl⟩) ⟨xw_blind, va_recv hK hPc (ci := 9) (q0 := 0) rfl rfl, fun U hU hW => ⟨rfl, by rw [hU], by rw [hU]; exact hPc, va_K.moved hW.alike hK, hDc.weaken (fun _ _ _ _ => trivial)⟩⟩ rfl rfl hl.1 rfl (lv_room (Nat.le_of_ble_eq_true rfl)) d_Tx_layOrdersAndDeletes_119 ⟨Nat.le_of_ble_eq_true rfl, Nat.le_of_ble_eq_true rfl⟩) hS (fun q _ h => hFc q h) hFc (fun r9 u t H1 locs ht hvm hw hB hz1 hk1 hS => ?_)
              obtain ⟨hP1, hK1, hD1⟩ := hB
              rw [ht] at hP1
              obtain ⟨hP, hD⟩ := va_join (wr := [(h, .inr (10, [tx_order, tx_length, tx_size, tx_unsure, tx_stranded, tx_dead, .ref sk, .ref ch, tx_lines, tx_loaded, tx_version, .int (nI yf), tx_rows, .ref tsA, tx_total, .ref reA, .ref deA, .ref goA, tx_waits])), (cfA, .inl (cI, 38000, .inl Z.cf)), (tsA, .inl (cI, 4000, .inl sl)), (reA, .inl (cL, 2800, .inr (.inl reu))), (goA, .inl (cI, 400, .inl gou)), (deA, .inl (cL, 3200, .inr (.inl deu))), (cat, .inl (cI, 38000, .inl Z.ca))]) (w1 := [(sk, .inr (9, [.ref b_y, sk_from, .ref fdA, .ref fcA, .ref dpA, sk_hashes, sk_byHash, sk_leansOn, sk_leantBy, .ref ch, sk_lines, sk_patches])), (b_y, .inl (cB, 290000, .inl S.f)), (fdA, .inl (cI, 502, .inl Z.fd)), (dpA, .inl (cI, 8400, .inl Z.dp)), (fcA, .inl (cI, 502, .inl Z.fc)), (ch, .inr (1, [.ref cat, ch_patch, .ref cfA, .ref flA, ch_adds, ch_files])), (flA, .inl (cI, 38000, .inl Z.fl))]) hP hD [10, 11, 1, 2, 3, 12, 5] [0, 4, 6, 7, 8, 9, 13] rfl rfl (by decide) (by decide) hk1 hFc hP1 hD1
              generalize H1 = H at hP hS ⊢
              have hP : va_P (dC, dI) classes [(h, .inr (10, [tx_order, tx_length, tx_size, tx_unsure, tx_stranded, tx_dead, .ref sk, .ref ch, tx_lines, tx_loaded, tx_version, .int (nI yf), tx_rows, .ref tsA, tx_total, .ref reA, .ref deA, .ref goA, tx_waits])), (cfA, .inl (cI, 38000, .inl Z.cf)), (tsA, .inl (cI, 4000, .inl sl)), (reA, .inl (cL, 2800, .inr (.inl reu))), (goA, .inl (cI, 400, .inl gou)), (deA, .inl (cL, 3200, .inr (.inl deu))), (cat, .inl (cI, 38000, .inl Z.ca)), (sk, .inr (9, [.ref b_y, sk_from, .ref fdA, .ref fcA, .ref dpA, sk_hashes, sk_byHash, sk_leansOn, sk_leantBy, .ref ch, sk_lines, sk_patches])), (b_y, .inl (cB, 290000, .inl S.f)), (fdA, .inl (cI, 502, .inl Z.fd)), (dpA, .inl (cI, 8400, .inl Z.dp)), (fcA, .inl (cI, 502, .inl Z.fc)), (ch, .inr (1, [.ref cat, ch_patch, .ref cfA, .ref flA, ch_adds, ch_files])), (flA, .inl (cI, 38000, .inl Z.fl))] H := hP
              have hD : va_D A [(h, .inr (10, [tx_order, tx_length, tx_size, tx_unsure, tx_stranded, tx_dead, .ref sk, .ref ch, tx_lines, tx_loaded, tx_version, .int (nI yf), tx_rows, .ref tsA, tx_total, .ref reA, .ref deA, .ref goA, tx_waits])), (cfA, .inl (cI, 38000, .inl Z.cf)), (tsA, .inl (cI, 4000, .inl sl)), (reA, .inl (cL, 2800, .inr (.inl reu))), (goA, .inl (cI, 400, .inl gou)), (deA, .inl (cL, 3200, .inr (.inl deu))), (cat, .inl (cI, 38000, .inl Z.ca)), (sk, .inr (9, [.ref b_y, sk_from, .ref fdA, .ref fcA, .ref dpA, sk_hashes, sk_byHash, sk_leansOn, sk_leantBy, .ref ch, sk_lines, sk_patches])), (b_y, .inl (cB, 290000, .inl S.f)), (fdA, .inl (cI, 502, .inl Z.fd)), (dpA, .inl (cI, 8400, .inl Z.dp)), (fcA, .inl (cI, 502, .inl Z.fc)), (ch, .inr (1, [.ref cat, ch_patch, .ref cfA, .ref flA, ch_adds, ch_files])), (flA, .inl (cI, 38000, .inl Z.fl))] := hD
              subst hw
              have hde : dE S yf pp j (S.CL Xa + tw S.f (S.CA (S.FC pp + j) + 1 + 4)) := ⟨c_103, n_38, ⟨Xa, Xac, rfl⟩⟩
              have hm1 := (hrf j (by omega)).2 _ hde
              have hg1 := hL5 _ hm1
              obtain ⟨ka, hka1, hka2⟩ := mem_getD hm1
              have hsa : sl (S.CL Xa + tw S.f (S.CA (S.FC pp + j) + 1 + 4)) = nI ka := by rw [← hka2]; exact hsl ka hka1
              refine va_iald hx hb hK hP 2 0 rfl rfl (vp_in_nI (by omega) (by omega)) d_Tx_layOrdersAndDeletes_122 ?_
              rw [show (nI (S.CL Xa + tw S.f ((S.CA (S.FC pp + j) + 1) + 4))).toNatClampNeg = (S.CL Xa + tw S.f ((S.CA (S.FC pp + j) + 1) + 4)) from nI_clamp (by omega)]
              refine lv_topi (fun x_7 ex_7 => ?_)
              obtain rfl : x_7 = nI ka := by rw [ex_7]; first | done | (exact hsa)
              refine lv_istore (lv' := [(5, .int (nI ka)), (4, .int (nI (S.CA (S.FC pp + j)))), (3, .int (S.f (S.CA (S.FC pp + j)))), (0, .ref h), (1, .int (nI pp)), (2, .int (nI (S.FC pp + j)))]) hx hb d_Tx_layOrdersAndDeletes_123 hl (by decide) rfl (fun ls hl => ?_)
              refine lv_aload_n hx hb d_Tx_layOrdersAndDeletes_125 rfl (lv_at hl 3 rfl) ?_
              refine va_get (D := (dC, dI)) (ci := 10) (v := .ref goA) (C := R_Tx) (T := F_Tx) (N := 19) hx hb hts i_Tx hown hK hP 0 rfl rfl 17 (by decide) (hts _ gw_399) (fun _ h9 => h9) rfl d_Tx_layOrdersAndDeletes_126 ?_
              refine lv_iload hx hb d_Tx_layOrdersAndDeletes_129 (lv_at hl 0 rfl) ?_
              refine lv_iconst (v := 1) hx hb d_Tx_layOrdersAndDeletes_131 (by decide) ?_
              refine va_iast hx hb hK hP hD hS 4 0 rfl rfl (vp_in_nI (by omega) (by omega)) d_Tx_layOrdersAndDeletes_132 (fun H locs hP hD hS => ?_)
              rw [show (nI ka).toNatClampNeg = ka from nI_clamp (by omega)] at hP hD
              have hP : va_P (dC, dI) classes [(h, .inr (10, [tx_order, tx_length, tx_size, tx_unsure, tx_stranded, tx_dead, .ref sk, .ref ch, tx_lines, tx_loaded, tx_version, .int (nI yf), tx_rows, .ref tsA, tx_total, .ref reA, .ref deA, .ref goA, tx_waits])), (cfA, .inl (cI, 38000, .inl Z.cf)), (tsA, .inl (cI, 4000, .inl sl)), (reA, .inl (cL, 2800, .inr (.inl reu))), (goA, .inl (cI, 400, .inl (upd gou ka 1))), (deA, .inl (cL, 3200, .inr (.inl deu))), (cat, .inl (cI, 38000, .inl Z.ca)), (sk, .inr (9, [.ref b_y, sk_from, .ref fdA, .ref fcA, .ref dpA, sk_hashes, sk_byHash, sk_leansOn, sk_leantBy, .ref ch, sk_lines, sk_patches])), (b_y, .inl (cB, 290000, .inl S.f)), (fdA, .inl (cI, 502, .inl Z.fd)), (dpA, .inl (cI, 8400, .inl Z.dp)), (fcA, .inl (cI, 502, .inl Z.fc)), (ch, .inr (1, [.ref cat, ch_patch, .ref cfA, .ref flA, ch_adds, ch_files])), (flA, .inl (cI, 38000, .inl Z.fl))] H := hP
              have hD : va_D A [(h, .inr (10, [tx_order, tx_length, tx_size, tx_unsure, tx_stranded, tx_dead, .ref sk, .ref ch, tx_lines, tx_loaded, tx_version, .int (nI yf), tx_rows, .ref tsA, tx_total, .ref reA, .ref deA, .ref goA, tx_waits])), (cfA, .inl (cI, 38000, .inl Z.cf)), (tsA, .inl (cI, 4000, .inl sl)), (reA, .inl (cL, 2800, .inr (.inl reu))), (goA, .inl (cI, 400, .inl (upd gou ka 1))), (deA, .inl (cL, 3200, .inr (.inl deu))), (cat, .inl (cI, 38000, .inl Z.ca)), (sk, .inr (9, [.ref b_y, sk_from, .ref fdA, .ref fcA, .ref dpA, sk_hashes, sk_byHash, sk_leansOn, sk_leantBy, .ref ch, sk_lines, sk_patches])), (b_y, .inl (cB, 290000, .inl S.f)), (fdA, .inl (cI, 502, .inl Z.fd)), (dpA, .inl (cI, 8400, .inl Z.dp)), (fcA, .inl (cI, 502, .inl Z.fc)), (ch, .inr (1, [.ref cat, ch_patch, .ref cfA, .ref flA, ch_adds, ch_files])), (flA, .inl (cI, 38000, .inl Z.fl))] := hD
              refine lv_aload_n hx hb d_Tx_layOrdersAndDeletes_133 rfl (lv_at hl 3 rfl) ?_
              refine va_get (D := (dC, dI)) (ci := 10) (v := .ref deA) (C := R_Tx) (T := F_Tx) (N := 19) hx hb hts i_Tx hown hK hP 0 rfl rfl 16 (by decide) (hts _ gw_398) (fun _ h9 => h9) rfl d_Tx_layOrdersAndDeletes_134 ?_
              refine lv_iload hx hb d_Tx_layOrdersAndDeletes_137 (lv_at hl 0 rfl) ?_
              refine lv_bipush (v := 8) hx hb d_Tx_layOrdersAndDeletes_139 (by decide) ?_
              refine lv_imul hx hb d_Tx_layOrdersAndDeletes_141 ?_
              refine lv_topi (fun x_8 ex_8 => ?_)
              obtain rfl : x_8 = nI (ka * 8) := by rw [ex_8]; first | done | (exact nI_mul _ _)
              refine lv_iload_n hx hb d_Tx_layOrdersAndDeletes_142 rfl (lv_at hl 4 rfl) ?_
              refine lv_bipush (v := 6) hx hb d_Tx_layOrdersAndDeletes_143 (by decide) ?_
              refine lv_ishr hx hb d_Tx_layOrdersAndDeletes_145 ?_
              refine lv_topi (fun x_9 ex_9 => ?_)
              obtain rfl : x_9 = nI (pp / 64) := by rw [ex_9]; first | done | (exact pk_shrN (by omega) _ 6 (by decide))
              refine lv_iadd hx hb d_Tx_layOrdersAndDeletes_146 ?_
              refine lv_topi (fun x_10 ex_10 => ?_)
              obtain rfl : x_10 = nI ((ka * 8) + (pp / 64)) := by rw [ex_10]; first | done | (exact nI_add _ _)
              refine lv_dup2_11 hx hb d_Tx_layOrdersAndDeletes_147 rfl rfl ?_
              refine va_lald hx hb hK hP 5 2 rfl rfl (vp_in_nI (by omega) (by omega)) d_Tx_layOrdersAndDeletes_148 ?_
              rw [show (nI ((ka * 8) + (pp / 64))).toNatClampNeg = ((ka * 8) + (pp / 64)) from nI_clamp (by omega)]
              refine lv_lconst (v := 1) hx hb d_Tx_layOrdersAndDeletes_149 (by decide) ?_
              refine lv_iload_n hx hb d_Tx_layOrdersAndDeletes_150 rfl (lv_at hl 4 rfl) ?_
              refine lv_bipush (v := 63) hx hb d_Tx_layOrdersAndDeletes_151 (by decide) ?_
              refine lv_iand hx hb d_Tx_layOrdersAndDeletes_153 ?_
              refine lv_topi (fun x_11 ex_11 => ?_)
              obtain rfl : x_11 = nI (pp % 64) := by rw [ex_11]; first | done | (exact pk_andN (by omega) 6 (by decide))
              refine lv_lshl hx hb d_Tx_layOrdersAndDeletes_154 rfl ?_
              refine lv_lor hx hb d_Tx_layOrdersAndDeletes_155 ?_
              refine va_last hx hb hK hP hD hS 5 2 rfl rfl (vp_in_nI (by omega) (by omega)) d_Tx_layOrdersAndDeletes_156 (fun H locs hP hD hS => ?_)
              rw [show (nI ((ka * 8) + (pp / 64))).toNatClampNeg = ((ka * 8) + (pp / 64)) from nI_clamp (by omega)] at hP hD
              have hP : va_P (dC, dI) classes [(h, .inr (10, [tx_order, tx_length, tx_size, tx_unsure, tx_stranded, tx_dead, .ref sk, .ref ch, tx_lines, tx_loaded, tx_version, .int (nI yf), tx_rows, .ref tsA, tx_total, .ref reA, .ref deA, .ref goA, tx_waits])), (cfA, .inl (cI, 38000, .inl Z.cf)), (tsA, .inl (cI, 4000, .inl sl)), (reA, .inl (cL, 2800, .inr (.inl reu))), (goA, .inl (cI, 400, .inl (upd gou ka 1))), (deA, .inl (cL, 3200, .inr (.inl (vp_updL deu ((ka * 8) + (pp / 64)) ((deu ((ka * 8) + (pp / 64))) ||| (1 <<< ((nI (pp % 64) : Int32).toInt64 &&& 63))))))), (cat, .inl (cI, 38000, .inl Z.ca)), (sk, .inr (9, [.ref b_y, sk_from, .ref fdA, .ref fcA, .ref dpA, sk_hashes, sk_byHash, sk_leansOn, sk_leantBy, .ref ch, sk_lines, sk_patches])), (b_y, .inl (cB, 290000, .inl S.f)), (fdA, .inl (cI, 502, .inl Z.fd)), (dpA, .inl (cI, 8400, .inl Z.dp)), (fcA, .inl (cI, 502, .inl Z.fc)), (ch, .inr (1, [.ref cat, ch_patch, .ref cfA, .ref flA, ch_adds, ch_files])), (flA, .inl (cI, 38000, .inl Z.fl))] H := hP
              have hD : va_D A [(h, .inr (10, [tx_order, tx_length, tx_size, tx_unsure, tx_stranded, tx_dead, .ref sk, .ref ch, tx_lines, tx_loaded, tx_version, .int (nI yf), tx_rows, .ref tsA, tx_total, .ref reA, .ref deA, .ref goA, tx_waits])), (cfA, .inl (cI, 38000, .inl Z.cf)), (tsA, .inl (cI, 4000, .inl sl)), (reA, .inl (cL, 2800, .inr (.inl reu))), (goA, .inl (cI, 400, .inl (upd gou ka 1))), (deA, .inl (cL, 3200, .inr (.inl (vp_updL deu ((ka * 8) + (pp / 64)) ((deu ((ka * 8) + (pp / 64))) ||| (1 <<< ((nI (pp % 64) : Int32).toInt64 &&& 63))))))), (cat, .inl (cI, 38000, .inl Z.ca)), (sk, .inr (9, [.ref b_y, sk_from, .ref fdA, .ref fcA, .ref dpA, sk_hashes, sk_byHash, sk_leansOn, sk_leantBy, .ref ch, sk_lines, sk_patches])), (b_y, .inl (cB, 290000, .inl S.f)), (fdA, .inl (cI, 502, .inl Z.fd)), (dpA, .inl (cI, 8400, .inl Z.dp)), (fcA, .inl (cI, 502, .inl Z.fc)), (ch, .inr (1, [.ref cat, ch_patch, .ref cfA, .ref flA, ch_adds, ch_files])), (flA, .inl (cI, 38000, .inl Z.fl))] := hD
              refine lv_iinc (v := nI (S.FC pp + j + 1)) (lv' := [(2, .int (nI (S.FC pp + j + 1))), (5, .int (nI ka)), (4, .int (nI (S.CA (S.FC pp + j)))), (3, .int (S.f (S.CA (S.FC pp + j)))), (0, .ref h), (1, .int (nI pp))]) hx hb d_Tx_layOrdersAndDeletes_157 hl (k := 5) rfl (by exact nI_add _ _) (by decide) rfl (fun ls hl => ?_)
              refine lv_goto (tgt := 10) hx hb d_Tx_layOrdersAndDeletes_160 (by decide) ?_
              exact ih_10 (j + 1) reu (upd gou ka 1) (btr_in deu (ka * 8) pp) _ _ _ (by omega) (by omega) (hq1.iff (fun a b _ _ => lE_iff (oN_no hno) a b)) (hq2.add hsl hL4 hka1 (fun l => by rw [hka2]; exact dN_yes hnd5 hde l)) (hq3.add hsl hL4 hka1 (by omega) (fun l q => by rw [hka2]; exact dN_yes2 hnd5 hde l q)) (hP.sub [0, 7, 8, 9, 10, 11, 12, 6, 1, 13, 2, 3, 4, 5] rfl) (hD.sub [0, 7, 8, 9, 10, 11, 12, 6, 1, 13, 2, 3, 4, 5] (by decide) rfl) hS (lv_sub hl [4, 5, 0] rfl)
          · have hor := rsR_4 c_66 (hpi.rs j (by omega))
            have hcw4 := hcw.2.2.2.2 c_66
            refine lv_aload_n hx hb d_Tx_layOrdersAndDeletes_69 rfl (lv_at hl 2 rfl) ?_
            refine lv_aload_n hx hb d_Tx_layOrdersAndDeletes_70 rfl (lv_at hl 2 rfl) ?_
            refine va_get (D := (dC, dI)) (ci := 10) (v := .ref sk) (C := R_Tx) (T := F_Tx) (N := 19) hx hb hts i_Tx hown hK hP 0 rfl rfl 6 (by decide) (hts _ gw_388) (fun _ h9 => h9) rfl d_Tx_layOrdersAndDeletes_71 ?_
            refine lv_iload_n hx hb d_Tx_layOrdersAndDeletes_74 rfl (lv_at hl 3 rfl) ?_
            refine lv_iload hx hb d_Tx_layOrdersAndDeletes_75 (lv_at hl 0 rfl) ?_
            refine lv_iconst (v := 1) hx hb d_Tx_layOrdersAndDeletes_77 (by decide) ?_
            refine lv_iadd hx hb d_Tx_layOrdersAndDeletes_78 ?_
            refine lv_topi (fun x_12 ex_12 => ?_)
            obtain rfl : x_12 = nI ((S.CA (S.FC pp + j)) + 1) := by rw [ex_12]; first | done | (exact nI_add _ _)
            obtain ⟨Xa, Xac, Xal, Xak, Xan, Xaf⟩ := I.lref hp9 hor.1
            obtain ⟨Xao, Xap, Xax⟩ := cnR.own (fdf := Z.fd) (dpf := Z.dp) (D0 := S.FD pp) (by omega) (R.fd pp (by omega)) (by omega) hgD Xac
            have Xag := R.fl Xa (by omega) Xak
            have Xab := I.cll (i := Xa) (by omega)
            have Xat := tw_lt S.f ((S.CA (S.FC pp + j) + 1) + 4)
            have hPc := hP.sub (ws' := [(sk, .inr (9, [.ref b_y, sk_from, .ref fdA, .ref fcA, .ref dpA, sk_hashes, sk_byHash, sk_leansOn, sk_leantBy, .ref ch, sk_lines, sk_patches])), (b_y, .inl (cB, 290000, .inl S.f)), (fdA, .inl (cI, 502, .inl Z.fd)), (dpA, .inl (cI, 8400, .inl Z.dp)), (fcA, .inl (cI, 502, .inl Z.fc)), (ch, .inr (1, [.ref cat, ch_patch, .ref cfA, .ref flA, ch_adds, ch_files])), (flA, .inl (cI, 38000, .inl Z.fl))]) [10, 11, 1, 2, 3, 12, 5] rfl
            have hDc := hD.sub (ws' := [(sk, .inr (9, [.ref b_y, sk_from, .ref fdA, .ref fcA, .ref dpA, sk_hashes, sk_byHash, sk_leansOn, sk_leantBy, .ref ch, sk_lines, sk_patches])), (b_y, .inl (cB, 290000, .inl S.f)), (fdA, .inl (cI, 502, .inl Z.fd)), (dpA, .inl (cI, 8400, .inl Z.dp)), (fcA, .inl (cI, 502, .inl Z.fc)), (ch, .inr (1, [.ref cat, ch_patch, .ref cfA, .ref flA, ch_adds, ch_files])), (flA, .inl (cI, 38000, .inl Z.fl))]) [10, 11, 1, 2, 3, 12, 5] (by decide) rfl
            have hFc := va_free (wc := [(sk, .inr (9, [.ref b_y, sk_from, .ref fdA, .ref fcA, .ref dpA, sk_hashes, sk_byHash, sk_leansOn, sk_leantBy, .ref ch, sk_lines, sk_patches])), (b_y, .inl (cB, 290000, .inl S.f)), (fdA, .inl (cI, 502, .inl Z.fd)), (dpA, .inl (cI, 8400, .inl Z.dp)), (fcA, .inl (cI, 502, .inl Z.fc)), (ch, .inr (1, [.ref cat, ch_patch, .ref cfA, .ref flA, ch_adds, ch_files])), (flA, .inl (cI, 38000, .inl Z.fl))]) hD hS hA [10, 11, 1, 2, 3, 12, 5] rfl
            refine va_calli (va_runV (As := [.int (nI pp), .int (nI ((S.CA (S.FC pp + j)) + 1))]) (rest := [.ref h]) ⟨hx, hb, hml, hown, hts⟩ (m_St_lineNamed l dC dI cI cB cL cZ cR sk b_y fdA dpA fcA ch flA (sk_from) (sk_hashes) (sk_byHash) (sk_leansOn) (sk_leantBy) (sk_lines) (sk_patches) (.ref cat) (ch_patch) (.ref cfA) (ch_adds) (ch_files) S.f Z.fd Z.dp Z.fc Z.fl pp (S.CA (S.FC pp + j) + 1) (owN S.f (S.dp pp) pp (S.CA (S.FC pp + j) + 1)) (S.FC (owN S.f (S.dp pp) pp (S.CA (S.FC pp + j) + 1))) (S.CL Xa) H.size (by omega) (by omega) Xao (by omega) (R.fc _ (by omega)) (by rw [← Xax]; omega) (by rw [← Xax]; exact Xag)) (cwV 2 hts (xg_V gw_1080 gw_928 gw_929 gw_3 gw_930) rfl rfl rfl (by decide +kernel) ⟨Nat.le_of_ble_eq_true rfl, Nat.le_of_ble_eq_true rfl⟩) ⟨xw_blind, va_recv hK hPc (ci := 9) (q0 := 0) rfl rfl, fun U hU hW => ⟨rfl, by rw [hU], by rw [hU]; exact hPc, va_K.moved hW.alike hK, hDc.weaken (fun _ _ _ _ => trivial)⟩⟩ rfl rfl hl.1 rfl (lv_room (Nat.le_of_ble_eq_true rfl)) d_Tx_layOrdersAndDeletes_79 ⟨Nat.le_of_ble_eq_true rfl, Nat.le_of_ble_eq_true rfl⟩) hS (fun q _ h => hFc q h) hFc (fun r9 u t H1 locs ht hvm hw hB hz1 hk1 hS => ?_)
            obtain ⟨hP1, hK1, hD1⟩ := hB
            rw [ht] at hP1
            obtain ⟨hP, hD⟩ := va_join (wr := [(h, .inr (10, [tx_order, tx_length, tx_size, tx_unsure, tx_stranded, tx_dead, .ref sk, .ref ch, tx_lines, tx_loaded, tx_version, .int (nI yf), tx_rows, .ref tsA, tx_total, .ref reA, .ref deA, .ref goA, tx_waits])), (cfA, .inl (cI, 38000, .inl Z.cf)), (tsA, .inl (cI, 4000, .inl sl)), (reA, .inl (cL, 2800, .inr (.inl reu))), (goA, .inl (cI, 400, .inl gou)), (deA, .inl (cL, 3200, .inr (.inl deu))), (cat, .inl (cI, 38000, .inl Z.ca))]) (w1 := [(sk, .inr (9, [.ref b_y, sk_from, .ref fdA, .ref fcA, .ref dpA, sk_hashes, sk_byHash, sk_leansOn, sk_leantBy, .ref ch, sk_lines, sk_patches])), (b_y, .inl (cB, 290000, .inl S.f)), (fdA, .inl (cI, 502, .inl Z.fd)), (dpA, .inl (cI, 8400, .inl Z.dp)), (fcA, .inl (cI, 502, .inl Z.fc)), (ch, .inr (1, [.ref cat, ch_patch, .ref cfA, .ref flA, ch_adds, ch_files])), (flA, .inl (cI, 38000, .inl Z.fl))]) hP hD [10, 11, 1, 2, 3, 12, 5] [0, 4, 6, 7, 8, 9, 13] rfl rfl (by decide) (by decide) hk1 hFc hP1 hD1
            generalize H1 = H at hP hS ⊢
            have hP : va_P (dC, dI) classes [(h, .inr (10, [tx_order, tx_length, tx_size, tx_unsure, tx_stranded, tx_dead, .ref sk, .ref ch, tx_lines, tx_loaded, tx_version, .int (nI yf), tx_rows, .ref tsA, tx_total, .ref reA, .ref deA, .ref goA, tx_waits])), (cfA, .inl (cI, 38000, .inl Z.cf)), (tsA, .inl (cI, 4000, .inl sl)), (reA, .inl (cL, 2800, .inr (.inl reu))), (goA, .inl (cI, 400, .inl gou)), (deA, .inl (cL, 3200, .inr (.inl deu))), (cat, .inl (cI, 38000, .inl Z.ca)), (sk, .inr (9, [.ref b_y, sk_from, .ref fdA, .ref fcA, .ref dpA, sk_hashes, sk_byHash, sk_leansOn, sk_leantBy, .ref ch, sk_lines, sk_patches])), (b_y, .inl (cB, 290000, .inl S.f)), (fdA, .inl (cI, 502, .inl Z.fd)), (dpA, .inl (cI, 8400, .inl Z.dp)), (fcA, .inl (cI, 502, .inl Z.fc)), (ch, .inr (1, [.ref cat, ch_patch, .ref cfA, .ref flA, ch_adds, ch_files])), (flA, .inl (cI, 38000, .inl Z.fl))] H := hP
            have hD : va_D A [(h, .inr (10, [tx_order, tx_length, tx_size, tx_unsure, tx_stranded, tx_dead, .ref sk, .ref ch, tx_lines, tx_loaded, tx_version, .int (nI yf), tx_rows, .ref tsA, tx_total, .ref reA, .ref deA, .ref goA, tx_waits])), (cfA, .inl (cI, 38000, .inl Z.cf)), (tsA, .inl (cI, 4000, .inl sl)), (reA, .inl (cL, 2800, .inr (.inl reu))), (goA, .inl (cI, 400, .inl gou)), (deA, .inl (cL, 3200, .inr (.inl deu))), (cat, .inl (cI, 38000, .inl Z.ca)), (sk, .inr (9, [.ref b_y, sk_from, .ref fdA, .ref fcA, .ref dpA, sk_hashes, sk_byHash, sk_leansOn, sk_leantBy, .ref ch, sk_lines, sk_patches])), (b_y, .inl (cB, 290000, .inl S.f)), (fdA, .inl (cI, 502, .inl Z.fd)), (dpA, .inl (cI, 8400, .inl Z.dp)), (fcA, .inl (cI, 502, .inl Z.fc)), (ch, .inr (1, [.ref cat, ch_patch, .ref cfA, .ref flA, ch_adds, ch_files])), (flA, .inl (cI, 38000, .inl Z.fl))] := hD
            subst hw
            refine lv_aload_n hx hb d_Tx_layOrdersAndDeletes_82 rfl (lv_at hl 2 rfl) ?_
            refine va_get (D := (dC, dI)) (ci := 10) (v := .ref sk) (C := R_Tx) (T := F_Tx) (N := 19) hx hb hts i_Tx hown hK hP 0 rfl rfl 6 (by decide) (hts _ gw_388) (fun _ h9 => h9) rfl d_Tx_layOrdersAndDeletes_83 ?_
            refine lv_iload_n hx hb d_Tx_layOrdersAndDeletes_86 rfl (lv_at hl 3 rfl) ?_
            refine lv_iload hx hb d_Tx_layOrdersAndDeletes_87 (lv_at hl 0 rfl) ?_
            refine lv_bipush (v := 7) hx hb d_Tx_layOrdersAndDeletes_89 (by decide) ?_
            refine lv_iadd hx hb d_Tx_layOrdersAndDeletes_91 ?_
            refine lv_topi (fun x_13 ex_13 => ?_)
            obtain rfl : x_13 = nI ((S.CA (S.FC pp + j)) + 7) := by rw [ex_13]; first | done | (exact nI_add _ _)
            obtain ⟨Xb, Xbc, Xbl, Xbk, Xbn, Xbf⟩ := I.lref hp9 hor.2.1
            obtain ⟨Xbo, Xbp, Xbx⟩ := cnR.own (fdf := Z.fd) (dpf := Z.dp) (D0 := S.FD pp) (by omega) (R.fd pp (by omega)) (by omega) hgD Xbc
            have Xbg := R.fl Xb (by omega) Xbk
            have Xbb := I.cll (i := Xb) (by omega)
            have Xbt := tw_lt S.f ((S.CA (S.FC pp + j) + 7) + 4)
            have hPc := hP.sub (ws' := [(sk, .inr (9, [.ref b_y, sk_from, .ref fdA, .ref fcA, .ref dpA, sk_hashes, sk_byHash, sk_leansOn, sk_leantBy, .ref ch, sk_lines, sk_patches])), (b_y, .inl (cB, 290000, .inl S.f)), (fdA, .inl (cI, 502, .inl Z.fd)), (dpA, .inl (cI, 8400, .inl Z.dp)), (fcA, .inl (cI, 502, .inl Z.fc)), (ch, .inr (1, [.ref cat, ch_patch, .ref cfA, .ref flA, ch_adds, ch_files])), (flA, .inl (cI, 38000, .inl Z.fl))]) [7, 8, 9, 10, 11, 12, 13] rfl
            have hDc := hD.sub (ws' := [(sk, .inr (9, [.ref b_y, sk_from, .ref fdA, .ref fcA, .ref dpA, sk_hashes, sk_byHash, sk_leansOn, sk_leantBy, .ref ch, sk_lines, sk_patches])), (b_y, .inl (cB, 290000, .inl S.f)), (fdA, .inl (cI, 502, .inl Z.fd)), (dpA, .inl (cI, 8400, .inl Z.dp)), (fcA, .inl (cI, 502, .inl Z.fc)), (ch, .inr (1, [.ref cat, ch_patch, .ref cfA, .ref flA, ch_adds, ch_files])), (flA, .inl (cI, 38000, .inl Z.fl))]) [7, 8, 9, 10, 11, 12, 13] (by decide) rfl
            have hFc := va_free (wc := [(sk, .inr (9, [.ref b_y, sk_from, .ref fdA, .ref fcA, .ref dpA, sk_hashes, sk_byHash, sk_leansOn, sk_leantBy, .ref ch, sk_lines, sk_patches])), (b_y, .inl (cB, 290000, .inl S.f)), (fdA, .inl (cI, 502, .inl Z.fd)), (dpA, .inl (cI, 8400, .inl Z.dp)), (fcA, .inl (cI, 502, .inl Z.fc)), (ch, .inr (1, [.ref cat, ch_patch, .ref cfA, .ref flA, ch_adds, ch_files])), (flA, .inl (cI, 38000, .inl Z.fl))]) hD hS hA [7, 8, 9, 10, 11, 12, 13] rfl
            refine va_calli (va_runV (As := [.int (nI pp), .int (nI ((S.CA (S.FC pp + j)) + 7))]) (rest := [.int (nI (S.CL Xa + tw S.f ((S.CA (S.FC pp + j) + 1) + 4))), .ref h]) ⟨hx, hb, hml, hown, hts⟩ (m_St_lineNamed l dC dI cI cB cL cZ cR sk b_y fdA dpA fcA ch flA (sk_from) (sk_hashes) (sk_byHash) (sk_leansOn) (sk_leantBy) (sk_lines) (sk_patches) (.ref cat) (ch_patch) (.ref cfA) (ch_adds) (ch_files) S.f Z.fd Z.dp Z.fc Z.fl pp (S.CA (S.FC pp + j) + 7) (owN S.f (S.dp pp) pp (S.CA (S.FC pp + j) + 7)) (S.FC (owN S.f (S.dp pp) pp (S.CA (S.FC pp + j) + 7))) (S.CL Xb) H.size (by omega) (by omega) Xbo (by omega) (R.fc _ (by omega)) (by rw [← Xbx]; omega) (by rw [← Xbx]; exact Xbg)) (cwV 2 hts (xg_V gw_1080 gw_928 gw_929 gw_3 gw_930) rfl rfl rfl (by decide +kernel) ⟨Nat.le_of_ble_eq_true rfl, Nat.le_of_ble_eq_true rfl⟩) ⟨xw_blind, va_recv hK hPc (ci := 9) (q0 := 0) rfl rfl, fun U hU hW => ⟨rfl, by rw [hU], by rw [hU]; exact hPc, va_K.moved hW.alike hK, hDc.weaken (fun _ _ _ _ => trivial)⟩⟩ rfl rfl hl.1 rfl (lv_room (Nat.le_of_ble_eq_true rfl)) d_Tx_layOrdersAndDeletes_92 ⟨Nat.le_of_ble_eq_true rfl, Nat.le_of_ble_eq_true rfl⟩) hS (fun q _ h => hFc q h) hFc (fun r9 u t H1 locs ht hvm hw hB hz1 hk1 hS => ?_)
            obtain ⟨hP1, hK1, hD1⟩ := hB
            rw [ht] at hP1
            obtain ⟨hP, hD⟩ := va_join (wr := [(h, .inr (10, [tx_order, tx_length, tx_size, tx_unsure, tx_stranded, tx_dead, .ref sk, .ref ch, tx_lines, tx_loaded, tx_version, .int (nI yf), tx_rows, .ref tsA, tx_total, .ref reA, .ref deA, .ref goA, tx_waits])), (cfA, .inl (cI, 38000, .inl Z.cf)), (tsA, .inl (cI, 4000, .inl sl)), (reA, .inl (cL, 2800, .inr (.inl reu))), (goA, .inl (cI, 400, .inl gou)), (deA, .inl (cL, 3200, .inr (.inl deu))), (cat, .inl (cI, 38000, .inl Z.ca))]) (w1 := [(sk, .inr (9, [.ref b_y, sk_from, .ref fdA, .ref fcA, .ref dpA, sk_hashes, sk_byHash, sk_leansOn, sk_leantBy, .ref ch, sk_lines, sk_patches])), (b_y, .inl (cB, 290000, .inl S.f)), (fdA, .inl (cI, 502, .inl Z.fd)), (dpA, .inl (cI, 8400, .inl Z.dp)), (fcA, .inl (cI, 502, .inl Z.fc)), (ch, .inr (1, [.ref cat, ch_patch, .ref cfA, .ref flA, ch_adds, ch_files])), (flA, .inl (cI, 38000, .inl Z.fl))]) hP hD [7, 8, 9, 10, 11, 12, 13] [0, 1, 2, 3, 4, 5, 6] rfl rfl (by decide) (by decide) hk1 hFc hP1 hD1
            generalize H1 = H at hP hS ⊢
            have hP : va_P (dC, dI) classes [(h, .inr (10, [tx_order, tx_length, tx_size, tx_unsure, tx_stranded, tx_dead, .ref sk, .ref ch, tx_lines, tx_loaded, tx_version, .int (nI yf), tx_rows, .ref tsA, tx_total, .ref reA, .ref deA, .ref goA, tx_waits])), (cfA, .inl (cI, 38000, .inl Z.cf)), (tsA, .inl (cI, 4000, .inl sl)), (reA, .inl (cL, 2800, .inr (.inl reu))), (goA, .inl (cI, 400, .inl gou)), (deA, .inl (cL, 3200, .inr (.inl deu))), (cat, .inl (cI, 38000, .inl Z.ca)), (sk, .inr (9, [.ref b_y, sk_from, .ref fdA, .ref fcA, .ref dpA, sk_hashes, sk_byHash, sk_leansOn, sk_leantBy, .ref ch, sk_lines, sk_patches])), (b_y, .inl (cB, 290000, .inl S.f)), (fdA, .inl (cI, 502, .inl Z.fd)), (dpA, .inl (cI, 8400, .inl Z.dp)), (fcA, .inl (cI, 502, .inl Z.fc)), (ch, .inr (1, [.ref cat, ch_patch, .ref cfA, .ref flA, ch_adds, ch_files])), (flA, .inl (cI, 38000, .inl Z.fl))] H := hP
            have hD : va_D A [(h, .inr (10, [tx_order, tx_length, tx_size, tx_unsure, tx_stranded, tx_dead, .ref sk, .ref ch, tx_lines, tx_loaded, tx_version, .int (nI yf), tx_rows, .ref tsA, tx_total, .ref reA, .ref deA, .ref goA, tx_waits])), (cfA, .inl (cI, 38000, .inl Z.cf)), (tsA, .inl (cI, 4000, .inl sl)), (reA, .inl (cL, 2800, .inr (.inl reu))), (goA, .inl (cI, 400, .inl gou)), (deA, .inl (cL, 3200, .inr (.inl deu))), (cat, .inl (cI, 38000, .inl Z.ca)), (sk, .inr (9, [.ref b_y, sk_from, .ref fdA, .ref fcA, .ref dpA, sk_hashes, sk_byHash, sk_leansOn, sk_leantBy, .ref ch, sk_lines, sk_patches])), (b_y, .inl (cB, 290000, .inl S.f)), (fdA, .inl (cI, 502, .inl Z.fd)), (dpA, .inl (cI, 8400, .inl Z.dp)), (fcA, .inl (cI, 502, .inl Z.fc)), (ch, .inr (1, [.ref cat, ch_patch, .ref cfA, .ref flA, ch_adds, ch_files])), (flA, .inl (cI, 38000, .inl Z.fl))] := hD
            subst hw
            have hoe : oE S yf pp j (S.CL Xa + tw S.f (S.CA (S.FC pp + j) + 1 + 4)) (S.CL Xb + tw S.f (S.CA (S.FC pp + j) + 7 + 4)) := ⟨c_66, n_38, ⟨Xa, Xac, rfl⟩, ⟨Xb, Xbc, rfl⟩⟩
            obtain ⟨hm1, hm2⟩ := (hrf j (by omega)).1 _ _ hoe
            have hg1 := hL5 _ hm1
            have hg2 := hL5 _ hm2
            obtain ⟨ka, hka1, hka2⟩ := mem_getD hm1
            obtain ⟨kb, hkb1, hkb2⟩ := mem_getD hm2
            have hsa : sl (S.CL Xa + tw S.f (S.CA (S.FC pp + j) + 1 + 4)) = nI ka := by rw [← hka2]; exact hsl ka hka1
            have hsb : sl (S.CL Xb + tw S.f (S.CA (S.FC pp + j) + 7 + 4)) = nI kb := by rw [← hkb2]; exact hsl kb hkb1
            have hnd9 : ∀ l, ¬ dE S yf pp j l := fun l z => by have e9 := z.1; rw [c_66] at e9; exact absurd e9 (by decide)
            have hPc := hP.sub (ws' := [(h, .inr (10, [tx_order, tx_length, tx_size, tx_unsure, tx_stranded, tx_dead, .ref sk, .ref ch, tx_lines, tx_loaded, tx_version, .int (nI yf), tx_rows, .ref tsA, tx_total, .ref reA, .ref deA, .ref goA, tx_waits])), (tsA, .inl (cI, 4000, .inl sl)), (reA, .inl (cL, 2800, .inr (.inl reu)))]) [0, 2, 3] rfl
            have hDc := hD.sub (ws' := [(h, .inr (10, [tx_order, tx_length, tx_size, tx_unsure, tx_stranded, tx_dead, .ref sk, .ref ch, tx_lines, tx_loaded, tx_version, .int (nI yf), tx_rows, .ref tsA, tx_total, .ref reA, .ref deA, .ref goA, tx_waits])), (tsA, .inl (cI, 4000, .inl sl)), (reA, .inl (cL, 2800, .inr (.inl reu)))]) [0, 2, 3] (by decide) rfl
            have hFc := va_free (wc := [(h, .inr (10, [tx_order, tx_length, tx_size, tx_unsure, tx_stranded, tx_dead, .ref sk, .ref ch, tx_lines, tx_loaded, tx_version, .int (nI yf), tx_rows, .ref tsA, tx_total, .ref reA, .ref deA, .ref goA, tx_waits])), (tsA, .inl (cI, 4000, .inl sl)), (reA, .inl (cL, 2800, .inr (.inl reu)))]) hD hS hA [0, 2, 3] rfl
            refine va_callv (va_runV (As := [.int (nI (S.CL Xa + tw S.f ((S.CA (S.FC pp + j) + 1) + 4))), .int (nI (S.CL Xb + tw S.f ((S.CA (S.FC pp + j) + 7) + 4)))]) (rest := []) ⟨hx, hb, hml, hown, hts⟩ (m_Tx_layEdge l dC dI cI cB cL cZ cR h tsA reA (tx_order) (tx_length) (tx_size) (tx_unsure) (tx_stranded) (tx_dead) (.ref sk) (.ref ch) (tx_lines) (tx_loaded) (tx_version) (.int (nI yf)) (tx_rows) (tx_total) (.ref deA) (.ref goA) (tx_waits) sl reu (S.CL Xa + tw S.f (S.CA (S.FC pp + j) + 1 + 4)) (S.CL Xb + tw S.f (S.CA (S.FC pp + j) + 7 + 4)) ka kb H.size (by omega) (by omega) hsa hsb (by omega) (by omega)) (cwV 2 hts (xg_V gw_1068 gw_1070 (xg_p 43 (q := (⟨"PatchStore$Text", "layEdge", "(II)V"⟩, 19)) (by decide +kernel)) gw_9 gw_1071) rfl rfl rfl (by decide +kernel) ⟨Nat.le_of_ble_eq_true rfl, Nat.le_of_ble_eq_true rfl⟩) ⟨xw_blind, va_recv hK hPc (ci := 10) (q0 := 0) rfl rfl, fun U hU hW => ⟨rfl, by rw [hU], by rw [hU]; exact hPc, va_K.moved hW.alike hK, hDc.weaken (fun _ _ _ _ => trivial)⟩⟩ rfl rfl hl.1 rfl (lv_room (Nat.le_of_ble_eq_true rfl)) d_Tx_layOrdersAndDeletes_95 ⟨Nat.le_of_ble_eq_true rfl, Nat.le_of_ble_eq_true rfl⟩) hS (fun q _ h => hFc q h) hFc (fun u9 t H1 locs ht hvm hw hB hz1 hk1 hS => ?_)
            obtain ⟨hP1, hK1, hD1⟩ := hB
            rw [ht] at hP1
            obtain ⟨hP, hD⟩ := va_join (wr := [(cfA, .inl (cI, 38000, .inl Z.cf)), (goA, .inl (cI, 400, .inl gou)), (deA, .inl (cL, 3200, .inr (.inl deu))), (cat, .inl (cI, 38000, .inl Z.ca)), (sk, .inr (9, [.ref b_y, sk_from, .ref fdA, .ref fcA, .ref dpA, sk_hashes, sk_byHash, sk_leansOn, sk_leantBy, .ref ch, sk_lines, sk_patches])), (b_y, .inl (cB, 290000, .inl S.f)), (fdA, .inl (cI, 502, .inl Z.fd)), (dpA, .inl (cI, 8400, .inl Z.dp)), (fcA, .inl (cI, 502, .inl Z.fc)), (ch, .inr (1, [.ref cat, ch_patch, .ref cfA, .ref flA, ch_adds, ch_files])), (flA, .inl (cI, 38000, .inl Z.fl))]) (w1 := [(h, .inr (10, [tx_order, tx_length, tx_size, tx_unsure, tx_stranded, tx_dead, .ref sk, .ref ch, tx_lines, tx_loaded, tx_version, .int (nI yf), tx_rows, .ref tsA, tx_total, .ref reA, .ref deA, .ref goA, tx_waits])), (tsA, .inl (cI, 4000, .inl sl)), (reA, .inl (cL, 2800, .inr (.inl (btr_in reu (ka * 7) kb))))]) hP hD [0, 2, 3] [1, 4, 5, 6, 7, 8, 9, 10, 11, 12, 13] rfl rfl (by decide) (by decide) hk1 hFc hP1 hD1
            generalize H1 = H at hP hS ⊢
            have hP : va_P (dC, dI) classes [(cfA, .inl (cI, 38000, .inl Z.cf)), (goA, .inl (cI, 400, .inl gou)), (deA, .inl (cL, 3200, .inr (.inl deu))), (cat, .inl (cI, 38000, .inl Z.ca)), (sk, .inr (9, [.ref b_y, sk_from, .ref fdA, .ref fcA, .ref dpA, sk_hashes, sk_byHash, sk_leansOn, sk_leantBy, .ref ch, sk_lines, sk_patches])), (b_y, .inl (cB, 290000, .inl S.f)), (fdA, .inl (cI, 502, .inl Z.fd)), (dpA, .inl (cI, 8400, .inl Z.dp)), (fcA, .inl (cI, 502, .inl Z.fc)), (ch, .inr (1, [.ref cat, ch_patch, .ref cfA, .ref flA, ch_adds, ch_files])), (flA, .inl (cI, 38000, .inl Z.fl)), (h, .inr (10, [tx_order, tx_length, tx_size, tx_unsure, tx_stranded, tx_dead, .ref sk, .ref ch, tx_lines, tx_loaded, tx_version, .int (nI yf), tx_rows, .ref tsA, tx_total, .ref reA, .ref deA, .ref goA, tx_waits])), (tsA, .inl (cI, 4000, .inl sl)), (reA, .inl (cL, 2800, .inr (.inl (btr_in reu (ka * 7) kb))))] H := hP
            have hD : va_D A [(cfA, .inl (cI, 38000, .inl Z.cf)), (goA, .inl (cI, 400, .inl gou)), (deA, .inl (cL, 3200, .inr (.inl deu))), (cat, .inl (cI, 38000, .inl Z.ca)), (sk, .inr (9, [.ref b_y, sk_from, .ref fdA, .ref fcA, .ref dpA, sk_hashes, sk_byHash, sk_leansOn, sk_leantBy, .ref ch, sk_lines, sk_patches])), (b_y, .inl (cB, 290000, .inl S.f)), (fdA, .inl (cI, 502, .inl Z.fd)), (dpA, .inl (cI, 8400, .inl Z.dp)), (fcA, .inl (cI, 502, .inl Z.fc)), (ch, .inr (1, [.ref cat, ch_patch, .ref cfA, .ref flA, ch_adds, ch_files])), (flA, .inl (cI, 38000, .inl Z.fl)), (h, .inr (10, [tx_order, tx_length, tx_size, tx_unsure, tx_stranded, tx_dead, .ref sk, .ref ch, tx_lines, tx_loaded, tx_version, .int (nI yf), tx_rows, .ref tsA, tx_total, .ref reA, .ref deA, .ref goA, tx_waits])), (tsA, .inl (cI, 4000, .inl sl)), (reA, .inl (cL, 2800, .inr (.inl (btr_in reu (ka * 7) kb))))] := hD
            refine lv_goto (tgt := 157) hx hb d_Tx_layOrdersAndDeletes_98 (by decide) ?_
            refine lv_iinc (v := nI (S.FC pp + j + 1)) (lv' := [(2, .int (nI (S.FC pp + j + 1))), (4, .int (nI (S.CA (S.FC pp + j)))), (3, .int (S.f (S.CA (S.FC pp + j)))), (0, .ref h), (1, .int (nI pp))]) hx hb d_Tx_layOrdersAndDeletes_157 hl (k := 4) rfl (by exact nI_add _ _) (by decide) rfl (fun ls hl => ?_)
            refine lv_goto (tgt := 10) hx hb d_Tx_layOrdersAndDeletes_160 (by decide) ?_
            exact ih_10 (j + 1) (btr_in reu (ka * 7) kb) gou deu _ _ _ (by omega) (by omega) (hq1.add (by omega) (lE_add hsl hL4 hka1 hkb1 (fun l m => by rw [hka2, hkb2]; exact oN_yes hnd5 hoe l m))) (hq2.iff (dN_no hnd9)) (hq3.iff (dN_no2 hnd9)) (hP.sub [11, 4, 5, 6, 7, 8, 9, 3, 0, 10, 12, 13, 1, 2] rfl) (hD.sub [11, 4, 5, 6, 7, 8, 9, 3, 0, 10, 12, 13, 1, 2] (by decide) rfl) hS (lv_sub hl [3, 4, 0] rfl)
        · have n_38 : ¬ (S.CF (S.FC pp + j)) = yf := fun z => c_38 ((nI_eq (a := (S.CF (S.FC pp + j))) (b := yf) (by omega) (by omega)).mpr z)
          have hno : ∀ l m, ¬ oE S yf pp j l m := fun l m z => n_38 z.2.1
          have hnd9 : ∀ l, ¬ dE S yf pp j l := fun l z => n_38 z.2.1
          refine lv_goto (tgt := 157) hx hb d_Tx_layOrdersAndDeletes_41 (by decide) ?_
          refine lv_iinc (v := nI (S.FC pp + j + 1)) (lv' := [(2, .int (nI (S.FC pp + j + 1))), (0, .ref h), (1, .int (nI pp))]) hx hb d_Tx_layOrdersAndDeletes_157 hl (k := 2) rfl (by exact nI_add _ _) (by decide) rfl (fun ls hl => ?_)
          refine lv_goto (tgt := 10) hx hb d_Tx_layOrdersAndDeletes_160 (by decide) ?_
          exact ih_10 (j + 1) reu gou deu _ _ _ (by omega) (by omega) (hq1.iff (fun a b _ _ => lE_iff (oN_no hno) a b)) (hq2.iff (dN_no hnd9)) (hq3.iff (dN_no2 hnd9)) hP hD hS (lv_sub hl [1, 2, 0] rfl)
  exact loop_10 _ 0 re go de _ _ _ (Nat.lt_succ_self _) (Nat.zero_le _) (hq01.iff (fun a b _ _ => lE_iff (fun l m => ⟨Or.inl, fun z => z.elim id (fun ⟨k, z9, _⟩ => absurd z9 (Nat.not_lt_zero _))⟩) a b)) (hq02.iff (fun l => ⟨Or.inl, fun z => z.elim id (fun ⟨k, z9, _⟩ => absurd z9 (Nat.not_lt_zero _))⟩)) (hq03.iff (fun l q => ⟨Or.inl, fun z => z.elim id (fun ⟨_, k, z9, _⟩ => absurd z9 (Nat.not_lt_zero _))⟩)) hP hD hS (lv_sub hl [1, 2, 0] rfl)
end
section
/-! 99.closure.lean.txt -/
def y_Tx_closeReach : MethodName := ⟨"PatchStore$Text", "closeReach", "()V"⟩
abbrev c_Tx_closeReach : Cond := (Jvm.Cond.code ({ cls := "PatchStore$Text", name := "closeReach", desc := "()V" } : Jvm.MethodName) prog_11_method_11_code (9 : Nat) (Option.none : Option Jvm.ClassFile.FieldType))
abbrev ws_Tx_closeReach : List Cond := c_Tx_closeReach :: xg_1
theorem d_Tx_closeReach_0 : decode prog_11_method_11_code 0 = .ok (.aload_n 0, 1) := by decide +kernel
theorem d_Tx_closeReach_1 : decode prog_11_method_11_code 1 = .ok (.getfield 97, 3) := by decide +kernel
theorem d_Tx_closeReach_4 : decode prog_11_method_11_code 4 = .ok (.bipush 63, 2) := by decide +kernel
theorem d_Tx_closeReach_6 : decode prog_11_method_11_code 6 = .ok (.iadd, 1) := by decide +kernel
theorem d_Tx_closeReach_7 : decode prog_11_method_11_code 7 = .ok (.bipush 6, 2) := by decide +kernel
theorem d_Tx_closeReach_9 : decode prog_11_method_11_code 9 = .ok (.ishr, 1) := by decide +kernel
theorem d_Tx_closeReach_10 : decode prog_11_method_11_code 10 = .ok (.istore_n 1, 1) := by decide +kernel
theorem d_Tx_closeReach_11 : decode prog_11_method_11_code 11 = .ok (.aload_n 0, 1) := by decide +kernel
theorem d_Tx_closeReach_12 : decode prog_11_method_11_code 12 = .ok (.getfield 97, 3) := by decide +kernel
theorem d_Tx_closeReach_15 : decode prog_11_method_11_code 15 = .ok (.iconst 1, 1) := by decide +kernel
theorem d_Tx_closeReach_16 : decode prog_11_method_11_code 16 = .ok (.isub, 1) := by decide +kernel
theorem d_Tx_closeReach_17 : decode prog_11_method_11_code 17 = .ok (.istore_n 2, 1) := by decide +kernel
theorem d_Tx_closeReach_18 : decode prog_11_method_11_code 18 = .ok (.iload_n 2, 1) := by decide +kernel
theorem d_Tx_closeReach_19 : decode prog_11_method_11_code 19 = .ok (.ifCond .lt 108, 3) := by decide +kernel
theorem d_Tx_closeReach_22 : decode prog_11_method_11_code 22 = .ok (.iload_n 2, 1) := by decide +kernel
theorem d_Tx_closeReach_23 : decode prog_11_method_11_code 23 = .ok (.bipush 7, 2) := by decide +kernel
theorem d_Tx_closeReach_25 : decode prog_11_method_11_code 25 = .ok (.imul, 1) := by decide +kernel
theorem d_Tx_closeReach_26 : decode prog_11_method_11_code 26 = .ok (.istore_n 3, 1) := by decide +kernel
theorem d_Tx_closeReach_27 : decode prog_11_method_11_code 27 = .ok (.iload_n 2, 1) := by decide +kernel
theorem d_Tx_closeReach_28 : decode prog_11_method_11_code 28 = .ok (.bipush 6, 2) := by decide +kernel
theorem d_Tx_closeReach_30 : decode prog_11_method_11_code 30 = .ok (.ishr, 1) := by decide +kernel
theorem d_Tx_closeReach_31 : decode prog_11_method_11_code 31 = .ok (.istore 4, 2) := by decide +kernel
theorem d_Tx_closeReach_33 : decode prog_11_method_11_code 33 = .ok (.iload_n 2, 1) := by decide +kernel
theorem d_Tx_closeReach_34 : decode prog_11_method_11_code 34 = .ok (.bipush 63, 2) := by decide +kernel
theorem d_Tx_closeReach_36 : decode prog_11_method_11_code 36 = .ok (.iand, 1) := by decide +kernel
theorem d_Tx_closeReach_37 : decode prog_11_method_11_code 37 = .ok (.istore 5, 2) := by decide +kernel
theorem d_Tx_closeReach_39 : decode prog_11_method_11_code 39 = .ok (.iconst 0, 1) := by decide +kernel
theorem d_Tx_closeReach_40 : decode prog_11_method_11_code 40 = .ok (.istore 6, 2) := by decide +kernel
theorem d_Tx_closeReach_42 : decode prog_11_method_11_code 42 = .ok (.iload 6, 2) := by decide +kernel
theorem d_Tx_closeReach_44 : decode prog_11_method_11_code 44 = .ok (.aload_n 0, 1) := by decide +kernel
theorem d_Tx_closeReach_45 : decode prog_11_method_11_code 45 = .ok (.getfield 97, 3) := by decide +kernel
theorem d_Tx_closeReach_48 : decode prog_11_method_11_code 48 = .ok (.if_icmp .ge 73, 3) := by decide +kernel
theorem d_Tx_closeReach_51 : decode prog_11_method_11_code 51 = .ok (.iload 6, 2) := by decide +kernel
theorem d_Tx_closeReach_53 : decode prog_11_method_11_code 53 = .ok (.bipush 7, 2) := by decide +kernel
theorem d_Tx_closeReach_55 : decode prog_11_method_11_code 55 = .ok (.imul, 1) := by decide +kernel
theorem d_Tx_closeReach_56 : decode prog_11_method_11_code 56 = .ok (.istore 7, 2) := by decide +kernel
theorem d_Tx_closeReach_58 : decode prog_11_method_11_code 58 = .ok (.aload_n 0, 1) := by decide +kernel
theorem d_Tx_closeReach_59 : decode prog_11_method_11_code 59 = .ok (.getfield 21, 3) := by decide +kernel
theorem d_Tx_closeReach_62 : decode prog_11_method_11_code 62 = .ok (.iload 7, 2) := by decide +kernel
theorem d_Tx_closeReach_64 : decode prog_11_method_11_code 64 = .ok (.iload 4, 2) := by decide +kernel
theorem d_Tx_closeReach_66 : decode prog_11_method_11_code 66 = .ok (.iadd, 1) := by decide +kernel
theorem d_Tx_closeReach_67 : decode prog_11_method_11_code 67 = .ok (.laload, 1) := by decide +kernel
theorem d_Tx_closeReach_68 : decode prog_11_method_11_code 68 = .ok (.iload 5, 2) := by decide +kernel
theorem d_Tx_closeReach_70 : decode prog_11_method_11_code 70 = .ok (.lshr, 1) := by decide +kernel
theorem d_Tx_closeReach_71 : decode prog_11_method_11_code 71 = .ok (.lconst 1, 1) := by decide +kernel
theorem d_Tx_closeReach_72 : decode prog_11_method_11_code 72 = .ok (.land, 1) := by decide +kernel
theorem d_Tx_closeReach_73 : decode prog_11_method_11_code 73 = .ok (.lconst 0, 1) := by decide +kernel
theorem d_Tx_closeReach_74 : decode prog_11_method_11_code 74 = .ok (.lcmp, 1) := by decide +kernel
theorem d_Tx_closeReach_75 : decode prog_11_method_11_code 75 = .ok (.ifCond .eq 40, 3) := by decide +kernel
theorem d_Tx_closeReach_78 : decode prog_11_method_11_code 78 = .ok (.iconst 0, 1) := by decide +kernel
theorem d_Tx_closeReach_79 : decode prog_11_method_11_code 79 = .ok (.istore 8, 2) := by decide +kernel
theorem d_Tx_closeReach_81 : decode prog_11_method_11_code 81 = .ok (.iload 8, 2) := by decide +kernel
theorem d_Tx_closeReach_83 : decode prog_11_method_11_code 83 = .ok (.iload_n 1, 1) := by decide +kernel
theorem d_Tx_closeReach_84 : decode prog_11_method_11_code 84 = .ok (.if_icmp .ge 31, 3) := by decide +kernel
theorem d_Tx_closeReach_87 : decode prog_11_method_11_code 87 = .ok (.aload_n 0, 1) := by decide +kernel
theorem d_Tx_closeReach_88 : decode prog_11_method_11_code 88 = .ok (.getfield 21, 3) := by decide +kernel
theorem d_Tx_closeReach_91 : decode prog_11_method_11_code 91 = .ok (.iload 7, 2) := by decide +kernel
theorem d_Tx_closeReach_93 : decode prog_11_method_11_code 93 = .ok (.iload 8, 2) := by decide +kernel
theorem d_Tx_closeReach_95 : decode prog_11_method_11_code 95 = .ok (.iadd, 1) := by decide +kernel
theorem d_Tx_closeReach_96 : decode prog_11_method_11_code 96 = .ok (.dup2, 1) := by decide +kernel
theorem d_Tx_closeReach_97 : decode prog_11_method_11_code 97 = .ok (.laload, 1) := by decide +kernel
theorem d_Tx_closeReach_98 : decode prog_11_method_11_code 98 = .ok (.aload_n 0, 1) := by decide +kernel
theorem d_Tx_closeReach_99 : decode prog_11_method_11_code 99 = .ok (.getfield 21, 3) := by decide +kernel
theorem d_Tx_closeReach_102 : decode prog_11_method_11_code 102 = .ok (.iload_n 3, 1) := by decide +kernel
theorem d_Tx_closeReach_103 : decode prog_11_method_11_code 103 = .ok (.iload 8, 2) := by decide +kernel
theorem d_Tx_closeReach_105 : decode prog_11_method_11_code 105 = .ok (.iadd, 1) := by decide +kernel
theorem d_Tx_closeReach_106 : decode prog_11_method_11_code 106 = .ok (.laload, 1) := by decide +kernel
theorem d_Tx_closeReach_107 : decode prog_11_method_11_code 107 = .ok (.lor, 1) := by decide +kernel
theorem d_Tx_closeReach_108 : decode prog_11_method_11_code 108 = .ok (.lastore, 1) := by decide +kernel
theorem d_Tx_closeReach_109 : decode prog_11_method_11_code 109 = .ok (.iinc 8 1, 3) := by decide +kernel
theorem d_Tx_closeReach_112 : decode prog_11_method_11_code 112 = .ok (.goto (-31), 3) := by decide +kernel
theorem d_Tx_closeReach_115 : decode prog_11_method_11_code 115 = .ok (.iinc 6 1, 3) := by decide +kernel
theorem d_Tx_closeReach_118 : decode prog_11_method_11_code 118 = .ok (.goto (-76), 3) := by decide +kernel
theorem d_Tx_closeReach_121 : decode prog_11_method_11_code 121 = .ok (.iinc 2 (-1), 3) := by decide +kernel
theorem d_Tx_closeReach_124 : decode prog_11_method_11_code 124 = .ok (.goto (-106), 3) := by decide +kernel
theorem d_Tx_closeReach_127 : decode prog_11_method_11_code 127 = .ok (.return_, 1) := by decide +kernel
/-- a way of k + 1 edges whose places between stand in m .. n -/
def ptN (E : Nat → Nat → Prop) (m n : Nat) : Nat → Nat → Nat → Prop
  | 0, a, b => E a b
  | k + 1, a, b => ∃ v, m ≤ v ∧ v < n ∧ E a v ∧ ptN E m n k v b
/-- a way -/
def pth (E : Nat → Nat → Prop) (m n a b : Nat) : Prop := ∃ k, ptN E m n k a b
theorem ptN.mono {E : Nat → Nat → Prop} {m m' n : Nat} (h : m' ≤ m) : ∀ {k a b}, ptN E m n k a b → ptN E m' n k a b
  | 0, _, _, z => z
  | k + 1, _, _, ⟨v, h1, h2, h3, h4⟩ => ⟨v, by omega, h2, h3, ptN.mono h h4⟩
theorem ptN.cat {E : Nat → Nat → Prop} {m n v b j : Nat} (h1 : m ≤ v) (h2 : v < n) (h : ptN E m n j v b) : ∀ {k a}, ptN E m n k a v → ptN E m n (k + j + 1) a b
  | 0, a, z => by
    rw [Nat.zero_add]
    exact ⟨v, h1, h2, z, h⟩
  | k + 1, a, ⟨u, z1, z2, z3, z4⟩ => by
    rw [show k + 1 + j + 1 = (k + j + 1) + 1 by omega]
    exact ⟨u, z1, z2, z3, ptN.cat h1 h2 h z4⟩
theorem ptN.split {E : Nat → Nat → Prop} {m n : Nat} : ∀ {k a b}, ptN E m n k a b → pth E (m + 1) n a b ∨ (pth E (m + 1) n a m ∧ pth E (m + 1) n m b)
  | 0, _, _, z => Or.inl ⟨0, z⟩
  | k + 1, a, b, ⟨v, h1, h2, h3, h4⟩ => by
    rcases ptN.split h4 with h | ⟨h, h'⟩
    · obtain ⟨i, hi⟩ := h
      by_cases e : v = m
      · subst e; exact Or.inr ⟨⟨0, h3⟩, i, hi⟩
      · exact Or.inl ⟨i + 1, v, by omega, h2, h3, hi⟩
    · by_cases e : v = m
      · subst e; exact Or.inr ⟨⟨0, h3⟩, h'⟩
      · obtain ⟨i, hi⟩ := h
        exact Or.inr ⟨⟨i + 1, v, by omega, h2, h3, hi⟩, h'⟩
theorem pth_step {E : Nat → Nat → Prop} {m n a b : Nat} (hm : m < n) : pth E m n a b ↔ pth E (m + 1) n a b ∨ (pth E (m + 1) n a m ∧ pth E (m + 1) n m b) := by
  constructor
  · rintro ⟨k, h⟩; exact ptN.split h
  · rintro (⟨k, h⟩ | ⟨⟨k, h⟩, ⟨j, h'⟩⟩)
    · exact ⟨k, h.mono (by omega)⟩
    · exact ⟨_, (h'.mono (by omega)).cat (Nat.le_refl _) hm (h.mono (by omega))⟩
theorem pth_none {E : Nat → Nat → Prop} {n a b : Nat} : pth E n n a b ↔ E a b := by
  constructor
  · rintro ⟨k, h⟩
    match k, h with
    | 0, h => exact h
    | k + 1, ⟨v, h1, h2, _⟩ => omega
  · intro h; exact ⟨0, h⟩
theorem pth_lt {E : Nat → Nat → Prop} {m n : Nat} (hE : ∀ a b, E a b → b < n) : ∀ {k a b}, ptN E m n k a b → b < n
  | 0, _, _, h => hE _ _ h
  | k + 1, _, _, ⟨v, _, _, _, h⟩ => pth_lt hE h
/-- the rows in the middle of a turn: those of the first s slots are new -/
def wR (P P' : Nat → Nat → Prop) (s : Nat) : Nat → Nat → Prop := fun a b => (a < s ∧ P' a b) ∨ (¬ a < s ∧ P a b)
/-- row s with the words of row q, the first w of them -/
def orW (re : Nat → Int64) (s q w : Nat) : Nat → Int64 := fun k => if s * 7 ≤ k ∧ k < s * 7 + w then re k ||| re (q * 7 + (k - s * 7)) else re k
theorem orW_0 (re : Nat → Int64) (s q : Nat) : orW re s q 0 = re := by
  funext k
  unfold orW
  rw [if_neg (by omega)]
theorem orW_at (re : Nat → Int64) {s q w : Nat} (hw : w < 7) : orW re s q w (s * 7 + w) = re (s * 7 + w) ∧ orW re s q w (q * 7 + w) = re (q * 7 + w) := by
  unfold orW
  constructor
  · rw [if_neg (by omega)]
  · by_cases e : s = q
    · subst e; rw [if_neg (by omega)]
    · rw [if_neg (by omega)]
theorem orW_s (re : Nat → Int64) {s q w : Nat} (hw : w < 7) : vp_updL (orW re s q w) (s * 7 + w) (orW re s q w (s * 7 + w) ||| orW re s q w (q * 7 + w)) = orW re s q (w + 1) := by
  obtain ⟨e1, e2⟩ := orW_at re (s := s) (q := q) hw
  rw [e1, e2]
  funext k
  by_cases e : k = s * 7 + w
  · subst e
    rw [vpL_eq]
    unfold orW
    rw [if_pos (by omega), Nat.add_sub_cancel_left]
  · rw [vpL_ne _ e]
    unfold orW
    by_cases z : s * 7 ≤ k ∧ k < s * 7 + w
    · rw [if_pos z, if_pos (by omega)]
    · rw [if_neg z, if_neg (by omega)]
theorem orW_bit {re : Nat → Int64} {s q w n : Nat} (hq : ∀ b, n ≤ b → b < 448 → btr re (q * 7) b = false) (hw : n ≤ 64 * w) (hw7 : w ≤ 7) {a b : Nat} (hb : b < 448) : btr (orW re s q w) (a * 7) b = (btr re (a * 7) b || (decide (a = s) && btr re (q * 7) b)) := by
  unfold btr orW
  by_cases e : a = s
  · subst e
    by_cases z : b / 64 < w
    · rw [if_pos (by omega), Nat.add_sub_cancel_left, Int64.toBitVec_or, BitVec.getLsbD_or]
      simp
    · rw [if_neg (by omega)]
      have h := hq b (by omega) hb
      unfold btr at h
      rw [h]; simp
  · rw [if_neg (by omega)]
    simp [e]
theorem bR.turn {re : Nat → Int64} {E : Nat → Nat → Prop} {n q s w : Nat} (hE : ∀ a b, E a b → b < n) (hqn : q < n) (hs : s < n) (hw : n ≤ 64 * w) (hw7 : w ≤ 7) (h : bR re n (wR (pth E (q + 1) n) (pth E q n) s)) (hbit : btr re (s * 7) q = true) : bR (orW re s q w) n (wR (pth E (q + 1) n) (pth E q n) (s + 1)) := by
  have hmid : ∀ b, b < 448 → (btr re (q * 7) b = true ↔ pth E (q + 1) n q b) := fun b hb => by
    rw [h q b hqn hb]
    unfold wR
    constructor
    · rintro (⟨_, z⟩ | ⟨_, z⟩)
      · rcases (pth_step hqn).mp z with z | ⟨_, z⟩
        · exact z
        · exact z
      · exact z
    · intro z
      by_cases e : q < s
      · exact Or.inl ⟨e, (pth_step hqn).mpr (Or.inl z)⟩
      · exact Or.inr ⟨e, z⟩
  have hz : ∀ b, n ≤ b → b < 448 → btr re (q * 7) b = false := fun b h1 h2 => Bool.eq_false_iff.mpr (fun z => by
    obtain ⟨k, hk⟩ := (hmid b h2).mp z
    have := pth_lt hE hk
    omega)
  have hsq : pth E (q + 1) n s q := by
    rcases (h s q hs (by omega)).mp hbit with ⟨z, _⟩ | ⟨_, z⟩
    · exact absurd z (Nat.lt_irrefl _)
    · exact z
  intro a b ha hb
  rw [orW_bit hz hw hw7 hb, Bool.or_eq_true, Bool.and_eq_true, decide_eq_true_iff, h a b ha hb, hmid b hb]
  unfold wR
  by_cases e : a = s
  · subst e
    constructor
    · rintro ((⟨z, _⟩ | ⟨_, z⟩) | ⟨_, z⟩)
      · exact absurd z (Nat.lt_irrefl _)
      · exact Or.inl ⟨by omega, (pth_step hqn).mpr (Or.inl z)⟩
      · exact Or.inl ⟨by omega, (pth_step hqn).mpr (Or.inr ⟨hsq, z⟩)⟩
    · rintro (⟨_, z⟩ | ⟨z, _⟩)
      · rcases (pth_step hqn).mp z with z | ⟨_, z⟩
        · exact Or.inl (Or.inr ⟨Nat.lt_irrefl _, z⟩)
        · exact Or.inr ⟨rfl, z⟩
      · omega
  · constructor
    · rintro ((⟨z, z'⟩ | ⟨z, z'⟩) | ⟨z, _⟩)
      · exact Or.inl ⟨by omega, z'⟩
      · exact Or.inr ⟨by omega, z'⟩
      · exact absurd z e
    · rintro (⟨z, z'⟩ | ⟨z, z'⟩)
      · exact Or.inl (Or.inl ⟨by omega, z'⟩)
      · exact Or.inl (Or.inr ⟨by omega, z'⟩)
theorem bR.stay {re : Nat → Int64} {E : Nat → Nat → Prop} {n q s : Nat} (hqn : q < n) (hs : s < n) (hn : n ≤ 400) (h : bR re n (wR (pth E (q + 1) n) (pth E q n) s)) (hbit : btr re (s * 7) q = false) : bR re n (wR (pth E (q + 1) n) (pth E q n) (s + 1)) := by
  have hsq : ¬ pth E (q + 1) n s q := fun z => by
    have := (h s q hs (by omega)).mpr (Or.inr ⟨Nat.lt_irrefl _, z⟩)
    rw [hbit] at this; cases this
  refine h.iff (fun a b ha hb => ?_)
  unfold wR
  by_cases e : a = s
  · subst e
    constructor
    · rintro (⟨z, _⟩ | ⟨_, z⟩)
      · exact absurd z (Nat.lt_irrefl _)
      · exact Or.inl ⟨by omega, (pth_step hqn).mpr (Or.inl z)⟩
    · rintro (⟨_, z⟩ | ⟨z, _⟩)
      · rcases (pth_step hqn).mp z with z | ⟨z, _⟩
        · exact Or.inr ⟨Nat.lt_irrefl _, z⟩
        · exact absurd z hsq
      · omega
  · constructor
    · rintro (⟨z, z'⟩ | ⟨z, z'⟩)
      · exact Or.inl ⟨by omega, z'⟩
      · exact Or.inr ⟨by omega, z'⟩
    · rintro (⟨z, z'⟩ | ⟨z, z'⟩)
      · exact Or.inl ⟨by omega, z'⟩
      · exact Or.inr ⟨by omega, z'⟩
theorem bR.begin {re : Nat → Int64} {P P' : Nat → Nat → Prop} {n : Nat} (h : bR re n P) : bR re n (wR P P' 0) := h.iff (fun a b _ _ => ⟨fun z => Or.inr ⟨Nat.not_lt_zero _, z⟩, fun z => z.elim (fun z => absurd z.1 (Nat.not_lt_zero _)) (fun z => z.2)⟩)
theorem bR.done {re : Nat → Int64} {P P' : Nat → Nat → Prop} {n : Nat} (h : bR re n (wR P P' n)) : bR re n P' := h.iff (fun a b ha _ => ⟨fun z => z.elim (fun z => z.2) (fun z => absurd ha z.1), fun z => Or.inl ⟨ha, z⟩⟩)
set_option maxHeartbeats 4000000 in
set_option maxRecDepth 100000 in
/-- the closure -/
theorem m_Tx_closeReach (l : Launch) (dC : Nat → ClassId) (dI : Nat → Nat → Nat) (cI cB cL cZ cR : ClassId) (h reA : Nat) (tx_order tx_length tx_size tx_unsure tx_stranded tx_dead tx_stock tx_changes tx_lines tx_loaded tx_version tx_loadedFile tx_rows tx_slots tx_deleters tx_gone tx_waits : Value) (re : Nat → Int64) (EE : Nat → Nat → Prop) (nn : Nat) (sz : Nat) (hnn : nn ≤ 400) (hEE : ∀ a b, EE a b → b < nn) (hq0 : bR re nn EE) : Met l y_Tx_closeReach ws_Tx_closeReach ({ frames := 0, cells := 0, slots := 0, locals := 0 }) (xw_Pc dC dI [(cI, .int), (cB, .byte), (cL, .long), (cZ, .boolean), (cR, .object "PatchStore$Repository")] [.ref h] [(h, .inr (10, [tx_order, tx_length, tx_size, tx_unsure, tx_stranded, tx_dead, tx_stock, tx_changes, tx_lines, tx_loaded, tx_version, tx_loadedFile, tx_rows, tx_slots, .int (nI nn), .ref reA, tx_deleters, tx_gone, tx_waits])), (reA, .inl (cL, 2800, .inr (.inl re)))] sz) (va_Qv (fun u : Nat → Int64 => bR u nn (pth EE 0 nn)) (fun u t => xw_B dC dI [(cI, .int), (cB, .byte), (cL, .long), (cZ, .boolean), (cR, .object "PatchStore$Repository")] (va_A [(h, .inr (10, [tx_order, tx_length, tx_size, tx_unsure, tx_stranded, tx_dead, tx_stock, tx_changes, tx_lines, tx_loaded, tx_version, tx_loadedFile, tx_rows, tx_slots, .int (nI nn), .ref reA, tx_deleters, tx_gone, tx_waits])), (reA, .inl (cL, 2800, .inr (.inl re)))] sz) [(h, .inr (10, [tx_order, tx_length, tx_size, tx_unsure, tx_stranded, tx_dead, tx_stock, tx_changes, tx_lines, tx_loaded, tx_version, tx_loadedFile, tx_rows, tx_slots, .int (nI nn), .ref reA, tx_deleters, tx_gone, tx_waits])), (reA, .inl (cL, 2800, .inr (.inl u)))] t) (va_A [(h, .inr (10, [tx_order, tx_length, tx_size, tx_unsure, tx_stranded, tx_dead, tx_stock, tx_changes, tx_lines, tx_loaded, tx_version, tx_loadedFile, tx_rows, tx_slots, .int (nI nn), .ref reA, tx_deleters, tx_gone, tx_waits])), (reA, .inl (cL, 2800, .inr (.inl re)))] sz)) 0 0 (va_A [(h, .inr (10, [tx_order, tx_length, tx_size, tx_unsure, tx_stranded, tx_dead, tx_stock, tx_changes, tx_lines, tx_loaded, tx_version, tx_loadedFile, tx_rows, tx_slots, .int (nI nn), .ref reA, tx_deleters, tx_gone, tx_waits])), (reA, .inl (cL, 2800, .inr (.inl re)))] sz) := by
  refine Met.ofW (cc := prog_11_method_11_code) (maxL := 9) (ret := none) (by decide) rfl ?_
  intro p e s m args below meth c s₁ B hml hv
  obtain ⟨rfl, hsz, hP, hK, hD0⟩ := hv
  have hx := B.exec
  have hb := B.bytes
  have hr := B.returns
  have hts0 := atoms_spec (ws := ws_Tx_closeReach) B.pre
  have hts : ∀ w ∈ xg_1, w.before _ s = true := fun w h => hts0 w (List.mem_cons_of_mem _ h)
  have hown : s.vm.findClass "PatchStore$Text" = some m.cls := findClass_of_methodNamed B.named
  have hlocks := B.notSynchronized
  subst hsz
  have hD := hD0.self (sz := s.heap.size)
  generalize hAe : va_A [(h, .inr (10, [tx_order, tx_length, tx_size, tx_unsure, tx_stranded, tx_dead, tx_stock, tx_changes, tx_lines, tx_loaded, tx_version, tx_loadedFile, tx_rows, tx_slots, .int (nI nn), .ref reA, tx_deleters, tx_gone, tx_waits])), (reA, .inl (cL, 2800, .inr (.inl re)))] s.heap.size = A at hD ⊢
  have hA : ∀ q : Nat, s.heap.size ≤ q → A q := fun q h => by rw [← hAe]; exact Or.inr h
  have hS : va_S A s.heap s.heap [] := va_S.rf
  have hl := lv_entry ([.ref h]) (n := 9) (Nat.le_of_ble_eq_true rfl)
  rw [lg_entry_eq]
  generalize (lg_sl ([.ref h]) ++ List.replicate (9 - (lg_sl ([.ref h])).length) Slot.unset).toArray = ls at hl ⊢
  have hl : lv_has ls 9 [(0, .ref h)] := hl
  generalize hQe : MQ _ _ _ _ _ _ _ = Q
  refine lv_aload_n hx hb d_Tx_closeReach_0 rfl (lv_at hl 0 rfl) ?_
  refine va_get (D := (dC, dI)) (ci := 10) (v := .int (nI nn)) (C := R_Tx) (T := F_Tx) (N := 19) hx hb hts i_Tx hown hK hP 0 rfl rfl 14 (by decide) (hts _ gw_396) (fun _ h9 => h9) rfl d_Tx_closeReach_1 ?_
  refine lv_bipush (v := 63) hx hb d_Tx_closeReach_4 (by decide) ?_
  refine lv_iadd hx hb d_Tx_closeReach_6 ?_
  refine lv_topi (fun x_1 ex_1 => ?_)
  obtain rfl : x_1 = nI (nn + 63) := by rw [ex_1]; first | done | (exact nI_add _ _)
  refine lv_bipush (v := 6) hx hb d_Tx_closeReach_7 (by decide) ?_
  refine lv_ishr hx hb d_Tx_closeReach_9 ?_
  refine lv_topi (fun x_2 ex_2 => ?_)
  obtain rfl : x_2 = nI ((nn + 63) / 64) := by rw [ex_2]; first | done | (exact pk_shrN (by omega) _ 6 (by decide))
  refine lv_istore_n (lv' := [(1, .int (nI ((nn + 63) / 64))), (0, .ref h)]) hx hb d_Tx_closeReach_10 rfl hl (by decide) rfl (fun ls hl => ?_)
  refine lv_aload_n hx hb d_Tx_closeReach_11 rfl (lv_at hl 1 rfl) ?_
  refine va_get (D := (dC, dI)) (ci := 10) (v := .int (nI nn)) (C := R_Tx) (T := F_Tx) (N := 19) hx hb hts i_Tx hown hK hP 0 rfl rfl 14 (by decide) (hts _ gw_396) (fun _ h9 => h9) rfl d_Tx_closeReach_12 ?_
  refine lv_iconst (v := 1) hx hb d_Tx_closeReach_15 (by decide) ?_
  refine lv_isub hx hb d_Tx_closeReach_16 ?_
  refine lv_istore_n (lv' := [(2, .int ((nI nn) - 1)), (1, .int (nI ((nn + 63) / 64))), (0, .ref h)]) hx hb d_Tx_closeReach_17 rfl hl (by decide) rfl (fun ls hl => ?_)
  have loop_18 : ∀ (n9 : Nat) (mm : Nat) (reu : Nat → Int64) (H : Heap) (locs : List Loc) (ls : Array Slot), mm < n9 → (mm ≤ nn) → (bR reu nn (pth EE mm nn)) → va_P (dC, dI) classes [(h, .inr (10, [tx_order, tx_length, tx_size, tx_unsure, tx_stranded, tx_dead, tx_stock, tx_changes, tx_lines, tx_loaded, tx_version, tx_loadedFile, tx_rows, tx_slots, .int (nI nn), .ref reA, tx_deleters, tx_gone, tx_waits])), (reA, .inl (cL, 2800, .inr (.inl reu)))] H → va_D A [(h, .inr (10, [tx_order, tx_length, tx_size, tx_unsure, tx_stranded, tx_dead, tx_stock, tx_changes, tx_lines, tx_loaded, tx_version, tx_loadedFile, tx_rows, tx_slots, .int (nI nn), .ref reA, tx_deleters, tx_gone, tx_waits])), (reA, .inl (cL, 2800, .inr (.inl reu)))] → va_S A s.heap H locs → lv_has ls 9 [(0, .ref h), (1, .int (nI ((nn + 63) / 64))), (2, .int (nI mm - 1))] → W p l e (headSpec ws_Tx_closeReach ({ frames := 0, cells := 0, slots := 0, locals := 0 })).room s m ([.ref h] : List Value).toArray below meth c H locs 0 0 Q (F0 m 18 ls []) := by
    intro n9
    induction n9 with
    | zero => intro mm reu H locs ls hm; exact absurd hm (Nat.not_lt_zero _)
    | succ n9 ih_18 =>
      intro mm reu H locs ls hm hm9 hq1 hP hD hS hl
      refine lv_iload_n hx hb d_Tx_closeReach_18 rfl (lv_at hl 2 rfl) ?_
      rcases mm with _ | q
      · refine lv_if_lt (tgt := 127) hx hb d_Tx_closeReach_19 (by decide) (fun _ => ?_) (fun c_19 => absurd (by decide) c_19)
        rw [← hQe]
        exact W.vret hx hb hr (fun t ht hW => ⟨⟨reu, rfl, hq1, by rw [ht]; exact hP, va_K.moved hW.alike hK, hD⟩, hS.F ht⟩) hS.2.2 d_Tx_closeReach_127
      · have hqe : nI (q + 1) - 1 = nI q := nI_subN (a := q + 1) (b := 1) (by omega)
        rw [hqe] at hl ⊢
        refine lv_if_lt (tgt := 127) hx hb d_Tx_closeReach_19 (by decide) (fun c_19 => absurd c_19 (nI_pos (by omega))) (fun _ => ?_)
        refine lv_iload_n hx hb d_Tx_closeReach_22 rfl (lv_at hl 2 rfl) ?_
        refine lv_bipush (v := 7) hx hb d_Tx_closeReach_23 (by decide) ?_
        refine lv_imul hx hb d_Tx_closeReach_25 ?_
        refine lv_topi (fun x_3 ex_3 => ?_)
        obtain rfl : x_3 = nI (q * 7) := by rw [ex_3]; first | done | (exact nI_mul _ _)
        refine lv_istore_n (lv' := [(3, .int (nI (q * 7))), (0, .ref h), (1, .int (nI ((nn + 63) / 64))), (2, .int (nI q))]) hx hb d_Tx_closeReach_26 rfl hl (by decide) rfl (fun ls hl => ?_)
        refine lv_iload_n hx hb d_Tx_closeReach_27 rfl (lv_at hl 3 rfl) ?_
        refine lv_bipush (v := 6) hx hb d_Tx_closeReach_28 (by decide) ?_
        refine lv_ishr hx hb d_Tx_closeReach_30 ?_
        refine lv_topi (fun x_4 ex_4 => ?_)
        obtain rfl : x_4 = nI (q / 64) := by rw [ex_4]; first | done | (exact pk_shrN (by omega) _ 6 (by decide))
        refine lv_istore (lv' := [(4, .int (nI (q / 64))), (3, .int (nI (q * 7))), (0, .ref h), (1, .int (nI ((nn + 63) / 64))), (2, .int (nI q))]) hx hb d_Tx_closeReach_31 hl (by decide) rfl (fun ls hl => ?_)
        refine lv_iload_n hx hb d_Tx_closeReach_33 rfl (lv_at hl 4 rfl) ?_
        refine lv_bipush (v := 63) hx hb d_Tx_closeReach_34 (by decide) ?_
        refine lv_iand hx hb d_Tx_closeReach_36 ?_
        refine lv_topi (fun x_5 ex_5 => ?_)
        obtain rfl : x_5 = nI (q % 64) := by rw [ex_5]; first | done | (exact pk_andN (by omega) 6 (by decide))
        refine lv_istore (lv' := [(5, .int (nI (q % 64))), (4, .int (nI (q / 64))), (3, .int (nI (q * 7))), (0, .ref h), (1, .int (nI ((nn + 63) / 64))), (2, .int (nI q))]) hx hb d_Tx_closeReach_37 hl (by decide) rfl (fun ls hl => ?_)
        refine lv_iconst (v := 0) hx hb d_Tx_closeReach_39 (by decide) ?_
        refine lv_istore (lv' := [(6, .int 0), (5, .int (nI (q % 64))), (4, .int (nI (q / 64))), (3, .int (nI (q * 7))), (0, .ref h), (1, .int (nI ((nn + 63) / 64))), (2, .int (nI q))]) hx hb d_Tx_closeReach_40 hl (by decide) rfl (fun ls hl => ?_)
        have loop_42 : ∀ (n9 : Nat) (s9 : Nat) (rev : Nat → Int64) (H : Heap) (locs : List Loc) (ls : Array Slot), nn - s9 < n9 → (s9 ≤ nn) → (bR rev nn (wR (pth EE (q + 1) nn) (pth EE q nn) s9)) → va_P (dC, dI) classes [(h, .inr (10, [tx_order, tx_length, tx_size, tx_unsure, tx_stranded, tx_dead, tx_stock, tx_changes, tx_lines, tx_loaded, tx_version, tx_loadedFile, tx_rows, tx_slots, .int (nI nn), .ref reA, tx_deleters, tx_gone, tx_waits])), (reA, .inl (cL, 2800, .inr (.inl rev)))] H → va_D A [(h, .inr (10, [tx_order, tx_length, tx_size, tx_unsure, tx_stranded, tx_dead, tx_stock, tx_changes, tx_lines, tx_loaded, tx_version, tx_loadedFile, tx_rows, tx_slots, .int (nI nn), .ref reA, tx_deleters, tx_gone, tx_waits])), (reA, .inl (cL, 2800, .inr (.inl rev)))] → va_S A s.heap H locs → lv_has ls 9 [(0, .ref h), (1, .int (nI ((nn + 63) / 64))), (2, .int (nI q)), (3, .int (nI (q * 7))), (4, .int (nI (q / 64))), (5, .int (nI (q % 64))), (6, .int (nI s9))] → W p l e (headSpec ws_Tx_closeReach ({ frames := 0, cells := 0, slots := 0, locals := 0 })).room s m ([.ref h] : List Value).toArray below meth c H locs 0 0 Q (F0 m 42 ls []) := by
          intro n9
          induction n9 with
          | zero => intro s9 rev H locs ls hm; exact absurd hm (Nat.not_lt_zero _)
          | succ n9 ih_42 =>
            intro s9 rev H locs ls hm hs9 hq2 hP hD hS hl
            refine lv_iload hx hb d_Tx_closeReach_42 (lv_at hl 6 rfl) ?_
            refine lv_aload_n hx hb d_Tx_closeReach_44 rfl (lv_at hl 0 rfl) ?_
            refine va_get (D := (dC, dI)) (ci := 10) (v := .int (nI nn)) (C := R_Tx) (T := F_Tx) (N := 19) hx hb hts i_Tx hown hK hP 0 rfl rfl 14 (by decide) (hts _ gw_396) (fun _ h9 => h9) rfl d_Tx_closeReach_45 ?_
            refine lv_icmp_ge (tgt := 121) hx hb d_Tx_closeReach_48 (by decide) (fun c_48 => ?_) (fun c_48 => ?_)
            · have n_48 : nn ≤ s9 := (nI_leI (a := nn) (b := s9) (by omega) (by omega)).mp c_48
              refine lv_iinc (v := nI q - 1) (lv' := [(2, .int (nI q - 1)), (0, .ref h), (1, .int (nI ((nn + 63) / 64))), (3, .int (nI (q * 7))), (4, .int (nI (q / 64))), (5, .int (nI (q % 64))), (6, .int (nI s9))]) hx hb d_Tx_closeReach_121 hl (k := 2) rfl (by rw [show Int32.ofInt (-1) = -1 from by decide]; exact (Int32.sub_eq_add_neg _ _).symm) (by decide) rfl (fun ls hl => ?_)
              refine lv_goto (tgt := 18) hx hb d_Tx_closeReach_124 (by decide) ?_
              exact ih_18 q rev _ _ _ (by omega) (by omega) (by rw [show s9 = nn by omega] at hq2; exact hq2.done) hP hD hS (lv_sub hl [1, 2, 0] rfl)
            · have n_48 : s9 < nn := Nat.lt_of_not_le (fun z => c_48 ((nI_leI (a := nn) (b := s9) (by omega) (by omega)).mpr z))
              refine lv_iload hx hb d_Tx_closeReach_51 (lv_at hl 6 rfl) ?_
              refine lv_bipush (v := 7) hx hb d_Tx_closeReach_53 (by decide) ?_
              refine lv_imul hx hb d_Tx_closeReach_55 ?_
              refine lv_topi (fun x_6 ex_6 => ?_)
              obtain rfl : x_6 = nI (s9 * 7) := by rw [ex_6]; first | done | (exact nI_mul _ _)
              refine lv_istore (lv' := [(7, .int (nI (s9 * 7))), (0, .ref h), (1, .int (nI ((nn + 63) / 64))), (2, .int (nI q)), (3, .int (nI (q * 7))), (4, .int (nI (q / 64))), (5, .int (nI (q % 64))), (6, .int (nI s9))]) hx hb d_Tx_closeReach_56 hl (by decide) rfl (fun ls hl => ?_)
              refine lv_aload_n hx hb d_Tx_closeReach_58 rfl (lv_at hl 1 rfl) ?_
              refine va_get (D := (dC, dI)) (ci := 10) (v := .ref reA) (C := R_Tx) (T := F_Tx) (N := 19) hx hb hts i_Tx hown hK hP 0 rfl rfl 15 (by decide) (hts _ gw_397) (fun _ h9 => h9) rfl d_Tx_closeReach_59 ?_
              refine lv_iload hx hb d_Tx_closeReach_62 (lv_at hl 0 rfl) ?_
              refine lv_iload hx hb d_Tx_closeReach_64 (lv_at hl 5 rfl) ?_
              refine lv_iadd hx hb d_Tx_closeReach_66 ?_
              refine lv_topi (fun x_7 ex_7 => ?_)
              obtain rfl : x_7 = nI ((s9 * 7) + (q / 64)) := by rw [ex_7]; first | done | (exact nI_add _ _)
              refine va_lald hx hb hK hP 1 2 rfl rfl (vp_in_nI (by omega) (by omega)) d_Tx_closeReach_67 ?_
              rw [show (nI ((s9 * 7) + (q / 64))).toNatClampNeg = ((s9 * 7) + (q / 64)) from nI_clamp (by omega)]
              refine lv_iload hx hb d_Tx_closeReach_68 (lv_at hl 6 rfl) ?_
              refine lv_lshr hx hb d_Tx_closeReach_70 rfl ?_
              refine lv_lconst (v := 1) hx hb d_Tx_closeReach_71 (by decide) ?_
              refine lv_land hx hb d_Tx_closeReach_72 ?_
              refine lv_lconst (v := 0) hx hb d_Tx_closeReach_73 (by decide) ?_
              refine W.lcmp hx hb d_Tx_closeReach_74 ?_
              refine lv_if_eq (tgt := 115) hx hb d_Tx_closeReach_75 (by decide) (fun c_75 => ?_) (fun c_75 => ?_)
              · have hbit : btr rev (s9 * 7) q = false := (bt_get _ _ (Nat.mod_lt _ (by decide))).mp c_75
                refine lv_iinc (v := nI (s9 + 1)) (lv' := [(6, .int (nI (s9 + 1))), (7, .int (nI (s9 * 7))), (0, .ref h), (1, .int (nI ((nn + 63) / 64))), (2, .int (nI q)), (3, .int (nI (q * 7))), (4, .int (nI (q / 64))), (5, .int (nI (q % 64)))]) hx hb d_Tx_closeReach_115 hl (k := 7) rfl (by exact nI_add _ _) (by decide) rfl (fun ls hl => ?_)
                refine lv_goto (tgt := 42) hx hb d_Tx_closeReach_118 (by decide) ?_
                exact ih_42 (s9 + 1) rev _ _ _ (by omega) (by omega) (hq2.stay (by omega) n_48 hnn hbit) hP hD hS (lv_sub hl [2, 3, 4, 5, 6, 7, 0] rfl)
              · have hbit : btr rev (s9 * 7) q = true := eq_true_of_ne_false (fun z => c_75 ((bt_get _ _ (Nat.mod_lt _ (by decide))).mpr z))
                refine lv_iconst (v := 0) hx hb d_Tx_closeReach_78 (by decide) ?_
                refine lv_istore (lv' := [(8, .int 0), (7, .int (nI (s9 * 7))), (0, .ref h), (1, .int (nI ((nn + 63) / 64))), (2, .int (nI q)), (3, .int (nI (q * 7))), (4, .int (nI (q / 64))), (5, .int (nI (q % 64))), (6, .int (nI s9))]) hx hb d_Tx_closeReach_79 hl (by decide) rfl (fun ls hl => ?_)
                rw [← orW_0 rev s9 q] at hP hD
                have loop_81 : ∀ (n9 : Nat) (wd : Nat) (H : Heap) (locs : List Loc) (ls : Array Slot), ((nn + 63) / 64) - wd < n9 → (wd ≤ ((nn + 63) / 64)) → va_P (dC, dI) classes [(h, .inr (10, [tx_order, tx_length, tx_size, tx_unsure, tx_stranded, tx_dead, tx_stock, tx_changes, tx_lines, tx_loaded, tx_version, tx_loadedFile, tx_rows, tx_slots, .int (nI nn), .ref reA, tx_deleters, tx_gone, tx_waits])), (reA, .inl (cL, 2800, .inr (.inl (orW rev s9 q wd))))] H → va_D A [(h, .inr (10, [tx_order, tx_length, tx_size, tx_unsure, tx_stranded, tx_dead, tx_stock, tx_changes, tx_lines, tx_loaded, tx_version, tx_loadedFile, tx_rows, tx_slots, .int (nI nn), .ref reA, tx_deleters, tx_gone, tx_waits])), (reA, .inl (cL, 2800, .inr (.inl (orW rev s9 q wd))))] → va_S A s.heap H locs → lv_has ls 9 [(0, .ref h), (1, .int (nI ((nn + 63) / 64))), (2, .int (nI q)), (3, .int (nI (q * 7))), (4, .int (nI (q / 64))), (5, .int (nI (q % 64))), (6, .int (nI s9)), (7, .int (nI (s9 * 7))), (8, .int (nI wd))] → W p l e (headSpec ws_Tx_closeReach ({ frames := 0, cells := 0, slots := 0, locals := 0 })).room s m ([.ref h] : List Value).toArray below meth c H locs 0 0 Q (F0 m 81 ls []) := by
                  intro n9
                  induction n9 with
                  | zero => intro wd H locs ls hm; exact absurd hm (Nat.not_lt_zero _)
                  | succ n9 ih_81 =>
                    intro wd H locs ls hm hwd hP hD hS hl
                    refine lv_iload hx hb d_Tx_closeReach_81 (lv_at hl 8 rfl) ?_
                    refine lv_iload_n hx hb d_Tx_closeReach_83 rfl (lv_at hl 1 rfl) ?_
                    refine lv_icmp_ge (tgt := 115) hx hb d_Tx_closeReach_84 (by decide) (fun c_84 => ?_) (fun c_84 => ?_)
                    · have n_84 : ((nn + 63) / 64) ≤ wd := (nI_leI (a := ((nn + 63) / 64)) (b := wd) (by omega) (by omega)).mp c_84
                      have hwe : wd = ((nn + 63) / 64) := by omega
                      refine lv_iinc (v := nI (s9 + 1)) (lv' := [(6, .int (nI (s9 + 1))), (0, .ref h), (1, .int (nI ((nn + 63) / 64))), (2, .int (nI q)), (3, .int (nI (q * 7))), (4, .int (nI (q / 64))), (5, .int (nI (q % 64))), (7, .int (nI (s9 * 7))), (8, .int (nI wd))]) hx hb d_Tx_closeReach_115 hl (k := 6) rfl (by exact nI_add _ _) (by decide) rfl (fun ls hl => ?_)
                      refine lv_goto (tgt := 42) hx hb d_Tx_closeReach_118 (by decide) ?_
                      exact ih_42 (s9 + 1) (orW rev s9 q wd) _ _ _ (by omega) (by omega) (hq2.turn hEE (by omega) n_48 (by omega) (by omega) hbit) hP hD hS (lv_sub hl [1, 2, 3, 4, 5, 6, 0] rfl)
                    · have n_84 : wd < ((nn + 63) / 64) := Nat.lt_of_not_le (fun z => c_84 ((nI_leI (a := ((nn + 63) / 64)) (b := wd) (by omega) (by omega)).mpr z))
                      refine lv_aload_n hx hb d_Tx_closeReach_87 rfl (lv_at hl 0 rfl) ?_
                      refine va_get (D := (dC, dI)) (ci := 10) (v := .ref reA) (C := R_Tx) (T := F_Tx) (N := 19) hx hb hts i_Tx hown hK hP 0 rfl rfl 15 (by decide) (hts _ gw_397) (fun _ h9 => h9) rfl d_Tx_closeReach_88 ?_
                      refine lv_iload hx hb d_Tx_closeReach_91 (lv_at hl 7 rfl) ?_
                      refine lv_iload hx hb d_Tx_closeReach_93 (lv_at hl 8 rfl) ?_
                      refine lv_iadd hx hb d_Tx_closeReach_95 ?_
                      refine lv_topi (fun x_8 ex_8 => ?_)
                      obtain rfl : x_8 = nI ((s9 * 7) + wd) := by rw [ex_8]; first | done | (exact nI_add _ _)
                      refine lv_dup2_11 hx hb d_Tx_closeReach_96 rfl rfl ?_
                      refine va_lald hx hb hK hP 1 2 rfl rfl (vp_in_nI (by omega) (by omega)) d_Tx_closeReach_97 ?_
                      rw [show (nI ((s9 * 7) + wd)).toNatClampNeg = ((s9 * 7) + wd) from nI_clamp (by omega)]
                      refine lv_aload_n hx hb d_Tx_closeReach_98 rfl (lv_at hl 0 rfl) ?_
                      refine va_get (D := (dC, dI)) (ci := 10) (v := .ref reA) (C := R_Tx) (T := F_Tx) (N := 19) hx hb hts i_Tx hown hK hP 0 rfl rfl 15 (by decide) (hts _ gw_397) (fun _ h9 => h9) rfl d_Tx_closeReach_99 ?_
                      refine lv_iload_n hx hb d_Tx_closeReach_102 rfl (lv_at hl 3 rfl) ?_
                      refine lv_iload hx hb d_Tx_closeReach_103 (lv_at hl 8 rfl) ?_
                      refine lv_iadd hx hb d_Tx_closeReach_105 ?_
                      refine lv_topi (fun x_9 ex_9 => ?_)
                      obtain rfl : x_9 = nI ((q * 7) + wd) := by rw [ex_9]; first | done | (exact nI_add _ _)
                      refine va_lald hx hb hK hP 1 2 rfl rfl (vp_in_nI (by omega) (by omega)) d_Tx_closeReach_106 ?_
                      rw [show (nI ((q * 7) + wd)).toNatClampNeg = ((q * 7) + wd) from nI_clamp (by omega)]
                      refine lv_lor hx hb d_Tx_closeReach_107 ?_
                      refine va_last hx hb hK hP hD hS 1 2 rfl rfl (vp_in_nI (by omega) (by omega)) d_Tx_closeReach_108 (fun H locs hP hD hS => ?_)
                      rw [show (nI ((s9 * 7) + wd)).toNatClampNeg = ((s9 * 7) + wd) from nI_clamp (by omega)] at hP hD
                      have hP : va_P (dC, dI) classes [(h, .inr (10, [tx_order, tx_length, tx_size, tx_unsure, tx_stranded, tx_dead, tx_stock, tx_changes, tx_lines, tx_loaded, tx_version, tx_loadedFile, tx_rows, tx_slots, .int (nI nn), .ref reA, tx_deleters, tx_gone, tx_waits])), (reA, .inl (cL, 2800, .inr (.inl (vp_updL (orW rev s9 q wd) ((s9 * 7) + wd) (((orW rev s9 q wd) ((s9 * 7) + wd)) ||| ((orW rev s9 q wd) ((q * 7) + wd)))))))] H := hP
                      have hD : va_D A [(h, .inr (10, [tx_order, tx_length, tx_size, tx_unsure, tx_stranded, tx_dead, tx_stock, tx_changes, tx_lines, tx_loaded, tx_version, tx_loadedFile, tx_rows, tx_slots, .int (nI nn), .ref reA, tx_deleters, tx_gone, tx_waits])), (reA, .inl (cL, 2800, .inr (.inl (vp_updL (orW rev s9 q wd) ((s9 * 7) + wd) (((orW rev s9 q wd) ((s9 * 7) + wd)) ||| ((orW rev s9 q wd) ((q * 7) + wd)))))))] := hD
                      refine lv_iinc (v := nI (wd + 1)) (lv' := [(8, .int (nI (wd + 1))), (0, .ref h), (1, .int (nI ((nn + 63) / 64))), (2, .int (nI q)), (3, .int (nI (q * 7))), (4, .int (nI (q / 64))), (5, .int (nI (q % 64))), (6, .int (nI s9)), (7, .int (nI (s9 * 7)))]) hx hb d_Tx_closeReach_109 hl (k := 8) rfl (by exact nI_add _ _) (by decide) rfl (fun ls hl => ?_)
                      refine lv_goto (tgt := 81) hx hb d_Tx_closeReach_112 (by decide) ?_
                      rw [orW_s rev (s := s9) (q := q) (w := wd) (by omega)] at hP hD
                      exact ih_81 (wd + 1) _ _ _ (by omega) (by omega) hP hD hS (lv_sub hl [1, 2, 3, 4, 5, 6, 7, 8, 0] rfl)
                exact loop_81 _ 0 _ _ _ (Nat.lt_succ_self _) (Nat.zero_le _) hP hD hS (lv_sub hl [2, 3, 4, 5, 6, 7, 8, 1, 0] rfl)
        exact loop_42 _ 0 reu _ _ _ (Nat.lt_succ_self _) (Nat.zero_le _) (hq1.begin) hP hD hS (lv_sub hl [4, 5, 6, 3, 2, 1, 0] rfl)
  exact loop_18 _ nn re _ _ _ (Nat.lt_succ_self _) (Nat.le_refl _) (hq0.iff (fun a b _ _ => pth_none.symm)) hP hD hS (lv_sub hl [2, 1, 0] rfl)
end
