/-! 99zy.deletes.lean.txt -/
theorem gw_2227 : (Jvm.Cond.methodLink "PatchStoreModel" (486 : Nat) ({ cls := "PatchStoreModel", name := "mention", desc := "(II)V" } : Jvm.MethodName)) ∈ xg_1 := xg_s10 67 rfl rfl
theorem gw_2229 : (Jvm.Cond.instanceMethod ({ cls := "PatchStoreModel", name := "mention", desc := "(II)V" } : Jvm.MethodName)) ∈ xg_1 := xg_s10 69 rfl rfl
theorem gw_2230 : (Jvm.Cond.code ({ cls := "PatchStoreModel", name := "mention", desc := "(II)V" } : Jvm.MethodName) prog_14_method_63_code (3 : Nat) (Option.none : Option Jvm.ClassFile.FieldType)) ∈ xg_1 := xg_s10 70 rfl rfl
def y_Md_deletes : MethodName := ⟨"PatchStoreModel", "deletes", "(I)I"⟩
abbrev c_Md_deletes : Cond := (Jvm.Cond.code ({ cls := "PatchStoreModel", name := "deletes", desc := "(I)I" } : Jvm.MethodName) prog_14_method_64_code (4 : Nat) (Option.some Jvm.ClassFile.FieldType.int))
abbrev ws_Md_deletes : List Cond := c_Md_deletes :: xg_1
theorem d_Md_deletes_0 : decode prog_14_method_64_code 0 = .ok (.iconst 0, 1) := by decide +kernel
theorem d_Md_deletes_1 : decode prog_14_method_64_code 1 = .ok (.istore_n 2, 1) := by decide +kernel
theorem d_Md_deletes_2 : decode prog_14_method_64_code 2 = .ok (.iconst 0, 1) := by decide +kernel
theorem d_Md_deletes_3 : decode prog_14_method_64_code 3 = .ok (.istore_n 3, 1) := by decide +kernel
theorem d_Md_deletes_4 : decode prog_14_method_64_code 4 = .ok (.iload_n 3, 1) := by decide +kernel
theorem d_Md_deletes_5 : decode prog_14_method_64_code 5 = .ok (.aload_n 0, 1) := by decide +kernel
theorem d_Md_deletes_6 : decode prog_14_method_64_code 6 = .ok (.getfield 214, 3) := by decide +kernel
theorem d_Md_deletes_9 : decode prog_14_method_64_code 9 = .ok (.if_icmp .ge 46, 3) := by decide +kernel
theorem d_Md_deletes_12 : decode prog_14_method_64_code 12 = .ok (.aload_n 0, 1) := by decide +kernel
theorem d_Md_deletes_13 : decode prog_14_method_64_code 13 = .ok (.getfield 262, 3) := by decide +kernel
theorem d_Md_deletes_16 : decode prog_14_method_64_code 16 = .ok (.iload_n 3, 1) := by decide +kernel
theorem d_Md_deletes_17 : decode prog_14_method_64_code 17 = .ok (.iaload, 1) := by decide +kernel
theorem d_Md_deletes_18 : decode prog_14_method_64_code 18 = .ok (.ifCond .lt 6, 3) := by decide +kernel
theorem d_Md_deletes_21 : decode prog_14_method_64_code 21 = .ok (.goto 28, 3) := by decide +kernel
theorem d_Md_deletes_24 : decode prog_14_method_64_code 24 = .ok (.iinc 2 1, 3) := by decide +kernel
theorem d_Md_deletes_27 : decode prog_14_method_64_code 27 = .ok (.iload_n 1, 1) := by decide +kernel
theorem d_Md_deletes_28 : decode prog_14_method_64_code 28 = .ok (.iconst 1, 1) := by decide +kernel
theorem d_Md_deletes_29 : decode prog_14_method_64_code 29 = .ok (.if_icmp .ne 9, 3) := by decide +kernel
theorem d_Md_deletes_32 : decode prog_14_method_64_code 32 = .ok (.aload_n 0, 1) := by decide +kernel
theorem d_Md_deletes_33 : decode prog_14_method_64_code 33 = .ok (.iconst 1, 1) := by decide +kernel
theorem d_Md_deletes_34 : decode prog_14_method_64_code 34 = .ok (.iconst 3, 1) := by decide +kernel
theorem d_Md_deletes_35 : decode prog_14_method_64_code 35 = .ok (.invokevirtual 424, 3) := by decide +kernel
theorem d_Md_deletes_38 : decode prog_14_method_64_code 38 = .ok (.aload_n 0, 1) := by decide +kernel
theorem d_Md_deletes_39 : decode prog_14_method_64_code 39 = .ok (.iload_n 1, 1) := by decide +kernel
theorem d_Md_deletes_40 : decode prog_14_method_64_code 40 = .ok (.aload_n 0, 1) := by decide +kernel
theorem d_Md_deletes_41 : decode prog_14_method_64_code 41 = .ok (.getfield 196, 3) := by decide +kernel
theorem d_Md_deletes_44 : decode prog_14_method_64_code 44 = .ok (.iload_n 3, 1) := by decide +kernel
theorem d_Md_deletes_45 : decode prog_14_method_64_code 45 = .ok (.iaload, 1) := by decide +kernel
theorem d_Md_deletes_46 : decode prog_14_method_64_code 46 = .ok (.invokevirtual 486, 3) := by decide +kernel
theorem d_Md_deletes_49 : decode prog_14_method_64_code 49 = .ok (.iinc 3 1, 3) := by decide +kernel
theorem d_Md_deletes_52 : decode prog_14_method_64_code 52 = .ok (.goto (-48), 3) := by decide +kernel
theorem d_Md_deletes_55 : decode prog_14_method_64_code 55 = .ok (.iload_n 2, 1) := by decide +kernel
theorem d_Md_deletes_56 : decode prog_14_method_64_code 56 = .ok (.ireturn, 1) := by decide +kernel
/-- a list rises -/
def upL (D : List Nat) : Prop := ∀ j, j + 1 < D.length → D.getD j 0 < D.getD (j + 1) 0
theorem upL.lt {D : List Nat} (h : upL D) {i : Nat} : ∀ {j}, i < j → j < D.length → D.getD i 0 < D.getD j 0
  | 0, h1, _ => absurd h1 (Nat.not_lt_zero _)
  | j + 1, h1, h2 => by
    have h3 := h j h2
    by_cases e : i = j
    · rw [e]; exact h3
    · have := upL.lt h (i := i) (j := j) (by omega) (by omega)
      omega
theorem upL.push {D : List Nat} {i : Nat} (h : upL D) (hi : ∀ x, x ∈ D → x < i) : upL (D ++ [i]) := by
  intro j hj
  rw [List.length_append] at hj
  have hj : j + 1 < D.length + 1 := hj
  rw [List.getD_eq_getElem?_getD, List.getD_eq_getElem?_getD, List.getElem?_append_left (by omega), ← List.getD_eq_getElem?_getD]
  by_cases e : j + 1 = D.length
  · rw [List.getElem?_append_right (by omega), show j + 1 - D.length = 0 by omega]
    exact hi _ (getD_mem (by omega))
  · rw [List.getElem?_append_left (by omega), ← List.getD_eq_getElem?_getD]
    exact h j (by omega)
theorem wk_upD (E : Nat → Nat → Bool) (no nt : Nat) : ∀ k, upL (wkD E no nt k)
  | 0 => fun j hj => absurd hj (Nat.not_lt_zero _)
  | k + 1 => by
    have ih := wk_upD E no nt k
    have hv := (wkV_all E no nt k).2.2.2.2.2.2
    rcases wk_cases E no nt k with ⟨_, _, _, _, _, e⟩ | ⟨_, _, _, _, e⟩ | ⟨_, _, _, _, e⟩ | ⟨_, _, _, _, _, e⟩
    · rw [e]; exact ih
    · rw [e]; exact ih.push hv
    · rw [e]; exact ih
    · rw [e]; exact ih
/-- the first n of a rising list stand below i, the others from i on -/
def pfx (D : List Nat) (i n : Nat) : Prop := n ≤ D.length ∧ (∀ j, j < n → D.getD j 0 < i) ∧ ∀ j, n ≤ j → j < D.length → i ≤ D.getD j 0
theorem pfx.zero (D : List Nat) : pfx D 0 0 := ⟨Nat.zero_le _, fun j z => absurd z (Nat.not_lt_zero _), fun j _ _ => Nat.zero_le _⟩
theorem pfx.hit {D : List Nat} {i n : Nat} (h : pfx D i n) (hu : upL D) (hi : i ∈ D) : n < D.length ∧ D.getD n 0 = i ∧ pfx D (i + 1) (n + 1) := by
  obtain ⟨j, hj, e⟩ := mem_getD hi
  have h1 : n ≤ j := by
    rcases Nat.lt_or_ge j n with z | z
    · have := h.2.1 j z; omega
    · exact z
  have hn : n < D.length := by omega
  have h2 := h.2.2 n (Nat.le_refl _) hn
  have h3 : D.getD n 0 = i := by
    by_cases z : n = j
    · rw [z]; exact e
    · have := hu.lt (i := n) (j := j) (by omega) hj
      omega
  refine ⟨hn, h3, by omega, fun k hk => ?_, fun k hk hk2 => ?_⟩
  · by_cases z : k = n
    · rw [z, h3]; omega
    · have := h.2.1 k (by omega); omega
  · have := hu.lt (i := n) (j := k) (by omega) hk2
    omega
theorem pfx.miss {D : List Nat} {i n : Nat} (h : pfx D i n) (hi : ¬ i ∈ D) : pfx D (i + 1) n := by
  refine ⟨h.1, fun k hk => by have := h.2.1 k hk; omega, fun k hk hk2 => ?_⟩
  have h1 := h.2.2 k hk hk2
  have h2 : ¬ D.getD k 0 = i := fun e => hi (by rw [← e]; exact getD_mem hk2)
  omega
theorem pfx.end_ {D : List Nat} {i n : Nat} (h : pfx D i n) (hb : ∀ x, x ∈ D → x < i) : n = D.length := by
  rcases Nat.lt_or_ge n D.length with z | z
  · have h1 := h.2.2 n (Nat.le_refl _) z
    have h2 := hb _ (getD_mem z)
    omega
  · have := h.1; omega
/-- the patches that are named -/
def nmF (PC : Nat → Nat) (F : List (List Int32 ⊕ Nat)) (x : Nat) : Prop := ∃ c, c ∈ tkC F ∧ PC c = x
theorem nmF_app {PC : Nat → Nat} {A B : List (List Int32 ⊕ Nat)} {x : Nat} : nmF PC (A ++ B) x ↔ (nmF PC A x ∨ nmF PC B x) := by
  unfold nmF
  rw [tkC_app]
  constructor
  · rintro ⟨c, h, e⟩
    rcases List.mem_append.mp h with z | z
    · exact Or.inl ⟨c, z, e⟩
    · exact Or.inr ⟨c, z, e⟩
  · rintro (⟨c, h, e⟩ | ⟨c, h, e⟩)
    · exact ⟨c, List.mem_append_left _ h, e⟩
    · exact ⟨c, List.mem_append_right _ h, e⟩
theorem nmF_one {PC : Nat → Nat} {F : List (List Int32 ⊕ Nat)} {c x : Nat} (h : tkC F = [c]) : nmF PC F x ↔ x = PC c := by
  unfold nmF
  rw [h]
  constructor
  · rintro ⟨d, h, e⟩
    rw [List.mem_singleton.mp h] at e; exact e.symm
  · intro e
    exact ⟨c, List.mem_singleton.mpr rfl, e.symm⟩
theorem nmF_nil {PC : Nat → Nat} {F : List (List Int32 ⊕ Nat)} {x : Nat} (h : tkC F = []) : ¬ nmF PC F x := by
  unfold nmF
  rw [h]
  rintro ⟨d, z, _⟩
  cases z
theorem nd_len : ∀ (n : Nat) (L : List Nat), L.Nodup → (∀ x, x ∈ L → x < n) → L.length ≤ n
  | 0, L, _, h => by
    cases L with
    | nil => exact Nat.le_refl _
    | cons x t => exact absurd (h x (List.mem_cons_self)) (Nat.not_lt_zero _)
  | n + 1, L, hn, h => by
    by_cases e : n ∈ L
    · have h1 := nd_len n (L.erase n) (hn.erase n) (fun x hx => by
        have h2 := h x (List.mem_of_mem_erase hx)
        have h3 : ¬ x = n := fun z => by
          rw [z] at hx
          exact (List.Nodup.not_mem_erase hn) hx
        omega)
      rw [List.length_erase_of_mem e] at h1
      omega
    · have h1 := nd_len n L hn (fun x hx => by
        have h2 := h x hx
        have h3 : ¬ x = n := fun z => e (by rw [← z]; exact hx)
        omega)
      omega
theorem srt.nodup {R : Nat → Nat → Prop} (hir : ∀ a, ¬ R a a) {L : List Nat} (h : srt R L) : L.Nodup := by
  rw [List.nodup_iff_pairwise_ne, List.pairwise_iff_getElem]
  intro i j hi hj hij e
  have h1 := h i j hij hj
  rw [List.getD_eq_getElem?_getD, List.getD_eq_getElem?_getD, List.getElem?_eq_getElem hj, List.getElem?_eq_getElem hi] at h1
  have h1 : R L[j] L[i] := h1
  rw [e] at h1
  exact hir _ h1
/-- the patches that are needed, with what F names -/
def ndI (H : Nat → Nat → Int32) (P9 : Nat) (PC : Nat → Nat) (L0 : List Nat) (F : List (List Int32 ⊕ Nat)) (nd : Nat → Int32) (L : List Nat) : Prop := arrL nd L ∧ srt (hsG H) L ∧ (∀ x, x ∈ L → x < P9) ∧ ∀ x, x ∈ L ↔ (nmF PC F x ∨ x ∈ L0)
theorem ndI.len {H : Nat → Nat → Int32} {P9 : Nat} {PC : Nat → Nat} {L0 : List Nat} {F : List (List Int32 ⊕ Nat)} {nd : Nat → Int32} {L : List Nat} (h : ndI H P9 PC L0 F nd L) (hP : P9 ≤ 500) : L.length ≤ 500 := Nat.le_trans (nd_len P9 L (h.2.1.nodup (fun a => hsG.ir a)) h.2.2.1) hP
theorem ndI.room {H : Nat → Nat → Int32} {P9 p : Nat} {PC : Nat → Nat} {L0 : List Nat} {F : List (List Int32 ⊕ Nat)} {nd : Nat → Int32} {L : List Nat} (h : ndI H P9 PC L0 F nd L) (hP : P9 ≤ 500) (hp : p < P9) (hn : ¬ p ∈ L) : L.length < 500 := by
  have h1 := nd_len P9 (p :: L) (List.nodup_cons.mpr ⟨hn, h.2.1.nodup (fun a => hsG.ir a)⟩) (fun x hx => by
    rcases List.mem_cons.mp hx with z | z
    · rw [z]; exact hp
    · exact h.2.2.1 x z)
  have h1 : L.length + 1 ≤ P9 := h1
  omega
theorem ndI.put {H : Nat → Nat → Int32} {P9 p : Nat} {PC : Nat → Nat} {L0 : List Nat} {F F' : List (List Int32 ⊕ Nat)} {nd nd' : Nat → Int32} {L L' : List Nat} (h : ndI H P9 PC L0 F nd L) (h2 : arrL nd' L' ∧ srt (hsG H) L' ∧ ∀ x, x ∈ L' ↔ x = p ∨ x ∈ L) (hp : p < P9) (hF : ∀ x, nmF PC F' x ↔ (nmF PC F x ∨ x = p)) : ndI H P9 PC L0 F' nd' L' := by
  refine ⟨h2.1, h2.2.1, fun x hx => ?_, fun x => ?_⟩
  · rcases (h2.2.2 x).mp hx with z | z
    · rw [z]; exact hp
    · exact h.2.2.1 x z
  · rw [h2.2.2 x, h.2.2.2 x, hF x]
    constructor
    · rintro (z | z | z)
      · exact Or.inl (Or.inr z)
      · exact Or.inl (Or.inl z)
      · exact Or.inr z
    · rintro ((z | z) | z)
      · exact Or.inr (Or.inl z)
      · exact Or.inl z
      · exact Or.inr (Or.inr z)
theorem ndI.iff {H : Nat → Nat → Int32} {P9 : Nat} {PC : Nat → Nat} {L0 : List Nat} {F F' : List (List Int32 ⊕ Nat)} {nd : Nat → Int32} {L : List Nat} (h : ndI H P9 PC L0 F nd L) (hF : ∀ x, nmF PC F' x ↔ nmF PC F x) : ndI H P9 PC L0 F' nd L := ⟨h.1, h.2.1, h.2.2.1, fun x => by rw [hF x]; exact h.2.2.2 x⟩
/-- what the rows hold of a line -/
def lnZ (S : Stk) (PC LC CL : Nat → Nat) (lh of fcf la : Nat → Int32) (P9 l : Nat) : Prop := l < 4000 ∧ lh l = nI (LC l) ∧ LC l < 38000 ∧ of (LC l) = nI (PC (LC l)) ∧ PC (LC l) < P9 ∧ fcf (PC (LC l)) = nI (S.FC (PC (LC l))) ∧ S.FC (PC (LC l)) ≤ LC l ∧ la (LC l) = nI (CL (LC l)) ∧ CL (LC l) ≤ l ∧ S.lp l = nI (l - CL (LC l))
/-- the rows of what is kept and what is new -/
def kpN (KX KN : List Nat) (kf nw : Nat → Int32) (nt : Nat) : Prop := KN.length = KX.length ∧ (∀ g, g < KN.length → kf (KN.getD g 0) = nI (KX.getD g 0)) ∧ ∀ j, j < nt → (nw j = 0 ∧ j ∈ KN) ∨ (nw j = 1 ∧ ¬ j ∈ KN)
theorem kpI.toD {K : List (Nat × Nat)} {D T : List Nat} {ka kf nw : Nat → Int32} {no nt : Nat} (h : kpI K D T ka kf nw no nt) (hK : ∀ x, x ∈ K → x.2 < 1000) {i : Nat} (hi : i < no) : ka i < 0 ↔ i ∈ D := by
  constructor
  · intro z
    rcases h.2.2.1 i hi with y | ⟨b, y⟩
    · exact y
    · have h1 := (h.1 _ y).1
      have h2 := hK _ y
      have h1 : ka i = nI b := h1
      rw [h1] at z
      exact absurd z (nI_pos (by omega))
  · intro z
    rw [h.2.1 i z]; decide
theorem kpI.toN {K : List (Nat × Nat)} {D T : List Nat} {ka kf nw : Nat → Int32} {no nt : Nat} (h : kpI K D T ka kf nw no nt) : kpN (K.map (fun x => T.getD x.1 0)) (K.map (fun x => x.2)) kf nw nt := by
  refine ⟨by rw [List.length_map, List.length_map], fun g hg => ?_, fun j hj => ?_⟩
  · rw [List.length_map] at hg
    rw [List.getD_eq_getElem?_getD, List.getD_eq_getElem?_getD, List.getElem?_map, List.getElem?_map, List.getElem?_eq_getElem hg]
    exact (h.1 _ (List.getElem_mem hg)).2.1
  · rcases h.2.2.2 j hj with ⟨a, z⟩ | ⟨z1, z2⟩
    · exact Or.inl ⟨(h.1 _ z).2.2, List.mem_map.mpr ⟨_, z, rfl⟩⟩
    · exact Or.inr ⟨z1, fun z => by
        obtain ⟨x, hx, e⟩ := List.mem_map.mp z
        obtain ⟨a, b⟩ := x
        have e : b = j := e
        rw [e] at hx
        exact z2 a hx⟩
/-- the places of the patches that are needed -/
def plQ (pl : Nat → Int32) (L : List Nat) : Prop := L.Nodup ∧ (∀ x, x ∈ L → x < 500) ∧ ∀ k, k < L.length → pl (L.getD k 0) = nI k
theorem plQ.len {pl : Nat → Int32} {L : List Nat} (h : plQ pl L) : L.length ≤ 500 := nd_len 500 L h.1 h.2.1
theorem plQ.ix {pl nd : Nat → Int32} {L : List Nat} (h : plQ pl L) (ha : arrL nd L) {p : Nat} (hp : p ∈ L) : ∃ kx, kx < 500 ∧ (∀ i, i ≤ kx → nd i = nI (L.getD i 0) ∧ L.getD i 0 < 500) ∧ L.getD kx 0 = p ∧ (∀ i, i < kx → ¬ L.getD i 0 = p) ∧ pl p = nI kx := by
  obtain ⟨kx, h1, h2⟩ := mem_getD hp
  have h3 := h.len
  refine ⟨kx, by omega, fun i hi => ⟨ha i (by omega), h.2.1 _ (getD_mem (by omega))⟩, h2, fun i hi e => ?_, by rw [← h2]; exact h.2.2 kx h1⟩
  have h4 := h.1
  rw [List.nodup_iff_pairwise_ne, List.pairwise_iff_getElem] at h4
  have h5 := h4 i kx (by omega) h1 hi
  rw [← h2, List.getD_eq_getElem?_getD, List.getD_eq_getElem?_getD, List.getElem?_eq_getElem h1, List.getElem?_eq_getElem (show i < L.length by omega)] at e
  exact h5 e
theorem getD_map {D : List Nat} {f : Nat → Nat} {n : Nat} (h : n < D.length) : (D.map f).getD n 0 = f (D.getD n 0) := by
  rw [List.getD_eq_getElem?_getD, List.getD_eq_getElem?_getD, List.getElem?_map, List.getElem?_eq_getElem h]
  rfl
theorem dlC_nm {S : Stk} {PC LC : Nat → Nat} {DX : List Nat} {n x : Nat} (h : n < DX.length) : nmF PC (dlC S LC (DX.take (n + 1))).flatten x ↔ (nmF PC (dlC S LC (DX.take n)).flatten x ∨ x = PC (LC (DX.getD n 0))) := by
  rw [dlC_step h, List.flatten_append, List.flatten_singleton, nmF_app]
  exact or_congr Iff.rfl (nmF_one rfl)
theorem dlC_by {S : Stk} {pl : Nat → Int32} {PC LC : Nat → Nat} {DX : List Nat} {n : Nat} (h : n < DX.length) : chL S pl PC (dlC S LC (DX.take (n + 1))) = chL S pl PC (dlC S LC (DX.take n)) ++ ([by1 3] ++ lrW S pl (PC (LC (DX.getD n 0))) (LC (DX.getD n 0)) (DX.getD n 0)) := by
  rw [dlC_step h, chL_app, chL_one, dlK_L]
theorem lrW_ref {S : Stk} {pl lh of fcf la : Nat → Int32} {PC LC CL : Nat → Nat} {P9 l kx : Nat} (h : lnZ S PC LC CL lh of fcf la P9 l) (hp : pl (PC (LC l)) = nI kx) : (by2 (nI kx) ++ by2 (nI (LC l - S.FC (PC (LC l))))) ++ by2 (nI (l - CL (LC l))) = lrW S pl (PC (LC l)) (LC l) l := by
  unfold lrW rfW
  rw [hp, h.2.2.2.2.2.2.2.2.2]
set_option maxHeartbeats 4000000 in
set_option maxRecDepth 100000 in
/-- what is deleted, first pass -/
theorem m_Md_deletes0 (l : Launch) (dC : Nat → ClassId) (dI : Nat → Nat → Nat) (cI cB cL cZ cR cBB cZZ cII : ClassId) (md ndM hsA ofM lhM kaM txM : Nat) (md_tape md_size md_thrown md_fault md_bytes md_used md_at md_length md_depAt md_firstChange md_deps md_patches md_sort md_fileOf md_one md_two md_nameAt md_nameSize md_overAt md_overCount md_lineAt md_lineCount md_changes md_overs md_overTotal md_textAt md_textSize md_lines md_fileChange md_fileLines md_files md_sets md_stamp md_digest md_in md_pos md_stop md_wrong md_dep md_named md_depCount md_own md_refFile md_full md_h md_counts md_marked md_namings md_namingCount md_listed md_listedCount md_listedStamp md_member md_place md_dead md_edge md_way md_members md_unsure md_workedRepository md_workedFile md_workedStamp md_stack md_before md_left md_made md_madeSize md_newAt md_newSize md_news md_common md_isNew md_keptFrom md_stateOf md_rising : Value) (ndf of lh ka tx : Nat → Int32) (gh : Nat → Option Nat) (G : Gr) (S : Stk) (PC LC CL : Nat → Nat) (fcf la : Nat → Int32) (L0 D DX T : List Nat) (P9 no : Nat) (sz : Nat) (hGn : G.n = P9) (hP9 : P9 ≤ 500) (hgh : ∀ i, i < P9 → gh i = some (G.ah i)) (hHd : ∀ p q, p < P9 → q < P9 → sq (G.H p) 0 32 = sq (G.H q) 0 32 → p = q) (hno : no ≤ 200) (hto : T.length = no) (htx : ∀ i, i < no → tx i = nI (T.getD i 0)) (hka : ∀ i, i < no → (ka i < 0 ↔ i ∈ D)) (hup : upL D) (hDb : ∀ x, x ∈ D → x < no) (hDX : DX = D.map (fun i => T.getD i 0)) (hL1 : arrL ndf L0) (hL2 : srt (hsG G.H) L0) (hLP : ∀ x, x ∈ L0 → x < P9) (hDF : ∀ x, x ∈ DX → lnZ S PC LC CL lh of fcf la P9 x) : Met l y_Md_deletes ws_Md_deletes ({ frames := 4, cells := 0, slots := 0, locals := 240 }) (xw_Pc dC dI [(cI, .int), (cB, .byte), (cL, .long), (cZ, .boolean), (cR, .object "PatchStore$Repository"), (cBB, .array .byte), (cZZ, .array .boolean), (cII, .array .int)] [.ref md, .int 0] (([(md, .inr (12, [md_tape, md_size, md_thrown, md_fault, md_bytes, md_used, md_at, md_length, md_depAt, md_firstChange, .ref hsA, md_deps, md_patches, md_sort, .ref ofM, md_fileOf, md_one, md_two, md_nameAt, md_nameSize, md_overAt, md_overCount, md_lineAt, md_lineCount, md_changes, md_overs, md_overTotal, .ref lhM, md_textAt, md_textSize, md_lines, md_fileChange, md_fileLines, md_files, md_sets, md_stamp, md_digest, md_in, md_pos, md_stop, md_wrong, md_dep, md_named, md_depCount, md_own, md_refFile, md_full, md_h, md_counts, md_marked, md_namings, md_namingCount, md_listed, md_listedCount, md_listedStamp, md_member, .ref txM, md_place, md_dead, md_edge, md_way, md_members, .int (nI no), md_unsure, md_workedRepository, md_workedFile, md_workedStamp, md_stack, md_before, md_left, md_made, md_madeSize, .ref ndM, .int (nI L0.length), md_newAt, md_newSize, md_news, md_common, .ref kaM, md_isNew, md_keptFrom, md_stateOf, md_rising])), (ndM, .inl (cI, 500, .inl ndf)), (hsA, .inl (cBB, 500, .inr (.inr (.inr (.inr gh))))), (ofM, .inl (cI, 38000, .inl of)), (lhM, .inl (cI, 4000, .inl lh)), (kaM, .inl (cI, 400, .inl ka)), (txM, .inl (cI, 400, .inl tx))] : va_W) ++ gdA cI cB cZ G) sz) (va_Qi (fun (r : Int32) (u : (Nat → Int32) × List Nat) => r = nI DX.length ∧ ndI G.H P9 PC L0 (dlC S LC DX).flatten u.1 u.2) (fun u t => xw_B dC dI [(cI, .int), (cB, .byte), (cL, .long), (cZ, .boolean), (cR, .object "PatchStore$Repository"), (cBB, .array .byte), (cZZ, .array .boolean), (cII, .array .int)] (va_A (([(md, .inr (12, [md_tape, md_size, md_thrown, md_fault, md_bytes, md_used, md_at, md_length, md_depAt, md_firstChange, .ref hsA, md_deps, md_patches, md_sort, .ref ofM, md_fileOf, md_one, md_two, md_nameAt, md_nameSize, md_overAt, md_overCount, md_lineAt, md_lineCount, md_changes, md_overs, md_overTotal, .ref lhM, md_textAt, md_textSize, md_lines, md_fileChange, md_fileLines, md_files, md_sets, md_stamp, md_digest, md_in, md_pos, md_stop, md_wrong, md_dep, md_named, md_depCount, md_own, md_refFile, md_full, md_h, md_counts, md_marked, md_namings, md_namingCount, md_listed, md_listedCount, md_listedStamp, md_member, .ref txM, md_place, md_dead, md_edge, md_way, md_members, .int (nI no), md_unsure, md_workedRepository, md_workedFile, md_workedStamp, md_stack, md_before, md_left, md_made, md_madeSize, .ref ndM, .int (nI L0.length), md_newAt, md_newSize, md_news, md_common, .ref kaM, md_isNew, md_keptFrom, md_stateOf, md_rising])), (ndM, .inl (cI, 500, .inl ndf)), (hsA, .inl (cBB, 500, .inr (.inr (.inr (.inr gh))))), (ofM, .inl (cI, 38000, .inl of)), (lhM, .inl (cI, 4000, .inl lh)), (kaM, .inl (cI, 400, .inl ka)), (txM, .inl (cI, 400, .inl tx))] : va_W) ++ gdA cI cB cZ G) sz) (([(md, .inr (12, [md_tape, md_size, md_thrown, md_fault, md_bytes, md_used, md_at, md_length, md_depAt, md_firstChange, .ref hsA, md_deps, md_patches, md_sort, .ref ofM, md_fileOf, md_one, md_two, md_nameAt, md_nameSize, md_overAt, md_overCount, md_lineAt, md_lineCount, md_changes, md_overs, md_overTotal, .ref lhM, md_textAt, md_textSize, md_lines, md_fileChange, md_fileLines, md_files, md_sets, md_stamp, md_digest, md_in, md_pos, md_stop, md_wrong, md_dep, md_named, md_depCount, md_own, md_refFile, md_full, md_h, md_counts, md_marked, md_namings, md_namingCount, md_listed, md_listedCount, md_listedStamp, md_member, .ref txM, md_place, md_dead, md_edge, md_way, md_members, .int (nI no), md_unsure, md_workedRepository, md_workedFile, md_workedStamp, md_stack, md_before, md_left, md_made, md_madeSize, .ref ndM, .int (nI u.2.length), md_newAt, md_newSize, md_news, md_common, .ref kaM, md_isNew, md_keptFrom, md_stateOf, md_rising])), (ndM, .inl (cI, 500, .inl u.1)), (hsA, .inl (cBB, 500, .inr (.inr (.inr (.inr gh))))), (ofM, .inl (cI, 38000, .inl of)), (lhM, .inl (cI, 4000, .inl lh)), (kaM, .inl (cI, 400, .inl ka)), (txM, .inl (cI, 400, .inl tx))] : va_W) ++ gdA cI cB cZ G) t) (va_A (([(md, .inr (12, [md_tape, md_size, md_thrown, md_fault, md_bytes, md_used, md_at, md_length, md_depAt, md_firstChange, .ref hsA, md_deps, md_patches, md_sort, .ref ofM, md_fileOf, md_one, md_two, md_nameAt, md_nameSize, md_overAt, md_overCount, md_lineAt, md_lineCount, md_changes, md_overs, md_overTotal, .ref lhM, md_textAt, md_textSize, md_lines, md_fileChange, md_fileLines, md_files, md_sets, md_stamp, md_digest, md_in, md_pos, md_stop, md_wrong, md_dep, md_named, md_depCount, md_own, md_refFile, md_full, md_h, md_counts, md_marked, md_namings, md_namingCount, md_listed, md_listedCount, md_listedStamp, md_member, .ref txM, md_place, md_dead, md_edge, md_way, md_members, .int (nI no), md_unsure, md_workedRepository, md_workedFile, md_workedStamp, md_stack, md_before, md_left, md_made, md_madeSize, .ref ndM, .int (nI L0.length), md_newAt, md_newSize, md_news, md_common, .ref kaM, md_isNew, md_keptFrom, md_stateOf, md_rising])), (ndM, .inl (cI, 500, .inl ndf)), (hsA, .inl (cBB, 500, .inr (.inr (.inr (.inr gh))))), (ofM, .inl (cI, 38000, .inl of)), (lhM, .inl (cI, 4000, .inl lh)), (kaM, .inl (cI, 400, .inl ka)), (txM, .inl (cI, 400, .inl tx))] : va_W) ++ gdA cI cB cZ G) sz)) 0 0 (va_A (([(md, .inr (12, [md_tape, md_size, md_thrown, md_fault, md_bytes, md_used, md_at, md_length, md_depAt, md_firstChange, .ref hsA, md_deps, md_patches, md_sort, .ref ofM, md_fileOf, md_one, md_two, md_nameAt, md_nameSize, md_overAt, md_overCount, md_lineAt, md_lineCount, md_changes, md_overs, md_overTotal, .ref lhM, md_textAt, md_textSize, md_lines, md_fileChange, md_fileLines, md_files, md_sets, md_stamp, md_digest, md_in, md_pos, md_stop, md_wrong, md_dep, md_named, md_depCount, md_own, md_refFile, md_full, md_h, md_counts, md_marked, md_namings, md_namingCount, md_listed, md_listedCount, md_listedStamp, md_member, .ref txM, md_place, md_dead, md_edge, md_way, md_members, .int (nI no), md_unsure, md_workedRepository, md_workedFile, md_workedStamp, md_stack, md_before, md_left, md_made, md_madeSize, .ref ndM, .int (nI L0.length), md_newAt, md_newSize, md_news, md_common, .ref kaM, md_isNew, md_keptFrom, md_stateOf, md_rising])), (ndM, .inl (cI, 500, .inl ndf)), (hsA, .inl (cBB, 500, .inr (.inr (.inr (.inr gh))))), (ofM, .inl (cI, 38000, .inl of)), (lhM, .inl (cI, 4000, .inl lh)), (kaM, .inl (cI, 400, .inl ka)), (txM, .inl (cI, 400, .inl tx))] : va_W) ++ gdA cI cB cZ G) sz) := by
  refine Met.ofW (cc := prog_14_method_64_code) (maxL := 4) (ret := (Option.some Jvm.ClassFile.FieldType.int)) (by decide) rfl ?_
  intro p e s m args below meth c s₁ B hml hv
  obtain ⟨rfl, hsz, hP, hK, hD0⟩ := hv
  have hx := B.exec
  have hb := B.bytes
  have hr := B.returns
  have hts0 := atoms_spec (ws := ws_Md_deletes) B.pre
  have hts : ∀ w ∈ xg_1, w.before _ s = true := fun w h => hts0 w (List.mem_cons_of_mem _ h)
  have hown : s.vm.findClass "PatchStoreModel" = some m.cls := findClass_of_methodNamed B.named
  have hlocks := B.notSynchronized
  subst hsz
  have hD := hD0.self (sz := s.heap.size)
  generalize hAe : va_A (([(md, .inr (12, [md_tape, md_size, md_thrown, md_fault, md_bytes, md_used, md_at, md_length, md_depAt, md_firstChange, .ref hsA, md_deps, md_patches, md_sort, .ref ofM, md_fileOf, md_one, md_two, md_nameAt, md_nameSize, md_overAt, md_overCount, md_lineAt, md_lineCount, md_changes, md_overs, md_overTotal, .ref lhM, md_textAt, md_textSize, md_lines, md_fileChange, md_fileLines, md_files, md_sets, md_stamp, md_digest, md_in, md_pos, md_stop, md_wrong, md_dep, md_named, md_depCount, md_own, md_refFile, md_full, md_h, md_counts, md_marked, md_namings, md_namingCount, md_listed, md_listedCount, md_listedStamp, md_member, .ref txM, md_place, md_dead, md_edge, md_way, md_members, .int (nI no), md_unsure, md_workedRepository, md_workedFile, md_workedStamp, md_stack, md_before, md_left, md_made, md_madeSize, .ref ndM, .int (nI L0.length), md_newAt, md_newSize, md_news, md_common, .ref kaM, md_isNew, md_keptFrom, md_stateOf, md_rising])), (ndM, .inl (cI, 500, .inl ndf)), (hsA, .inl (cBB, 500, .inr (.inr (.inr (.inr gh))))), (ofM, .inl (cI, 38000, .inl of)), (lhM, .inl (cI, 4000, .inl lh)), (kaM, .inl (cI, 400, .inl ka)), (txM, .inl (cI, 400, .inl tx))] : va_W) ++ gdA cI cB cZ G) s.heap.size = A at hD ⊢
  have hA : ∀ q : Nat, s.heap.size ≤ q → A q := fun q h => by rw [← hAe]; exact Or.inr h
  have hS : va_S A s.heap s.heap [] := va_S.rf
  have hl := lv_entry ([.ref md, .int 0]) (n := 4) (Nat.le_of_ble_eq_true rfl)
  rw [lg_entry_eq]
  generalize (lg_sl ([.ref md, .int 0]) ++ List.replicate (4 - (lg_sl ([.ref md, .int 0])).length) Slot.unset).toArray = ls at hl ⊢
  have hl : lv_has ls 4 [(0, .ref md), (1, .int 0)] := hl
  generalize hQe : MQ _ _ _ _ _ _ _ = Q
  refine lv_iconst (v := 0) hx hb d_Md_deletes_0 (by decide) ?_
  refine lv_topi (fun x_1 ex_1 => ?_)
  obtain rfl : x_1 = nI 0 := by rw [ex_1]; first | done | (exact rfl)
  refine lv_istore_n (lv' := [(2, .int (nI 0)), (0, .ref md), (1, .int 0)]) hx hb d_Md_deletes_1 rfl hl (by decide) rfl (fun ls hl => ?_)
  refine lv_iconst (v := 0) hx hb d_Md_deletes_2 (by decide) ?_
  refine lv_topi (fun x_2 ex_2 => ?_)
  obtain rfl : x_2 = nI 0 := by rw [ex_2]; first | done | (exact rfl)
  refine lv_istore_n (lv' := [(3, .int (nI 0)), (2, .int (nI 0)), (0, .ref md), (1, .int 0)]) hx hb d_Md_deletes_3 rfl hl (by decide) rfl (fun ls hl => ?_)
  have loop_4 : ∀ (n9 : Nat) (i : Nat) (n : Nat) (ndu : Nat → Int32) (Lu : List Nat) (H : Heap) (locs : List Loc) (ls : Array Slot), no - i < n9 → (i ≤ no) → (pfx D i n) → (ndI G.H P9 PC L0 (dlC S LC (DX.take n)).flatten ndu Lu) → va_P (dC, dI) classes (([(md, .inr (12, [md_tape, md_size, md_thrown, md_fault, md_bytes, md_used, md_at, md_length, md_depAt, md_firstChange, .ref hsA, md_deps, md_patches, md_sort, .ref ofM, md_fileOf, md_one, md_two, md_nameAt, md_nameSize, md_overAt, md_overCount, md_lineAt, md_lineCount, md_changes, md_overs, md_overTotal, .ref lhM, md_textAt, md_textSize, md_lines, md_fileChange, md_fileLines, md_files, md_sets, md_stamp, md_digest, md_in, md_pos, md_stop, md_wrong, md_dep, md_named, md_depCount, md_own, md_refFile, md_full, md_h, md_counts, md_marked, md_namings, md_namingCount, md_listed, md_listedCount, md_listedStamp, md_member, .ref txM, md_place, md_dead, md_edge, md_way, md_members, .int (nI no), md_unsure, md_workedRepository, md_workedFile, md_workedStamp, md_stack, md_before, md_left, md_made, md_madeSize, .ref ndM, .int (nI Lu.length), md_newAt, md_newSize, md_news, md_common, .ref kaM, md_isNew, md_keptFrom, md_stateOf, md_rising])), (ndM, .inl (cI, 500, .inl ndu)), (hsA, .inl (cBB, 500, .inr (.inr (.inr (.inr gh))))), (ofM, .inl (cI, 38000, .inl of)), (lhM, .inl (cI, 4000, .inl lh)), (kaM, .inl (cI, 400, .inl ka)), (txM, .inl (cI, 400, .inl tx))] : va_W) ++ gdA cI cB cZ G) H → va_D A (([(md, .inr (12, [md_tape, md_size, md_thrown, md_fault, md_bytes, md_used, md_at, md_length, md_depAt, md_firstChange, .ref hsA, md_deps, md_patches, md_sort, .ref ofM, md_fileOf, md_one, md_two, md_nameAt, md_nameSize, md_overAt, md_overCount, md_lineAt, md_lineCount, md_changes, md_overs, md_overTotal, .ref lhM, md_textAt, md_textSize, md_lines, md_fileChange, md_fileLines, md_files, md_sets, md_stamp, md_digest, md_in, md_pos, md_stop, md_wrong, md_dep, md_named, md_depCount, md_own, md_refFile, md_full, md_h, md_counts, md_marked, md_namings, md_namingCount, md_listed, md_listedCount, md_listedStamp, md_member, .ref txM, md_place, md_dead, md_edge, md_way, md_members, .int (nI no), md_unsure, md_workedRepository, md_workedFile, md_workedStamp, md_stack, md_before, md_left, md_made, md_madeSize, .ref ndM, .int (nI Lu.length), md_newAt, md_newSize, md_news, md_common, .ref kaM, md_isNew, md_keptFrom, md_stateOf, md_rising])), (ndM, .inl (cI, 500, .inl ndu)), (hsA, .inl (cBB, 500, .inr (.inr (.inr (.inr gh))))), (ofM, .inl (cI, 38000, .inl of)), (lhM, .inl (cI, 4000, .inl lh)), (kaM, .inl (cI, 400, .inl ka)), (txM, .inl (cI, 400, .inl tx))] : va_W) ++ gdA cI cB cZ G) → va_S A s.heap H locs → lv_has ls 4 [(0, .ref md), (1, .int 0), (2, .int (nI n)), (3, .int (nI i))] → W p l e (headSpec ws_Md_deletes ({ frames := 4, cells := 0, slots := 0, locals := 240 })).room s m ([.ref md, .int 0] : List Value).toArray below meth c H locs 0 0 Q (F0 m 4 ls []) := by
    intro n9
    induction n9 with
    | zero => intro i n ndu Lu H locs ls hm; exact absurd hm (Nat.not_lt_zero _)
    | succ n9 ih_4 =>
      intro i n ndu Lu H locs ls hm hi hpf hnd hP hD hS hl
      have hn9 := hpf.1
      have hDl : D.length ≤ no := nd_len no D (by rw [List.nodup_iff_pairwise_ne, List.pairwise_iff_getElem]; intro a b ha hb hab e; have z := hup.lt hab hb; rw [List.getD_eq_getElem?_getD, List.getD_eq_getElem?_getD, List.getElem?_eq_getElem ha, List.getElem?_eq_getElem hb] at z; have z : D[a] < D[b] := z; omega) hDb
      refine lv_iload_n hx hb d_Md_deletes_4 rfl (lv_at hl 3 rfl) ?_
      refine lv_aload_n hx hb d_Md_deletes_5 rfl (lv_at hl 0 rfl) ?_
      refine va_get (D := (dC, dI)) (ci := 12) (v := .int (nI no)) (C := R_Md) (T := F_Md) (N := 83) hx hb hts i_Md hown hK hP 0 rfl rfl 62 (by decide) (hts _ gw_1480) (fun _ h9 => h9) rfl d_Md_deletes_6 ?_
      refine lv_icmp_ge (tgt := 55) hx hb d_Md_deletes_9 (by decide) (fun c_9 => ?_) (fun c_9 => ?_)
      · have n_9 : no ≤ i := (nI_leI (a := no) (b := i) (by omega) (by omega)).mp c_9
        refine lv_iload_n hx hb d_Md_deletes_55 rfl (lv_at hl 2 rfl) ?_
        have hin : i = no := by omega
        have hnD : n = DX.length := by rw [hDX, List.length_map]; exact hpf.end_ (fun x z => by rw [hin]; exact hDb x z)
        rw [hnD, List.take_length] at hnd
        rw [← hQe]
        exact W.iret (v := nI n) hx hb hr (fun t ht hW => ⟨⟨_, (ndu, Lu), rfl, ⟨by rw [hnD], hnd⟩, by rw [ht]; exact hP, va_K.moved hW.alike hK, hD⟩, hS.F ht⟩) hS.2.2 d_Md_deletes_56
      · have n_9 : i < no := Nat.lt_of_not_le (fun z => c_9 ((nI_leI (a := no) (b := i) (by omega) (by omega)).mpr z))
        refine lv_aload_n hx hb d_Md_deletes_12 rfl (lv_at hl 0 rfl) ?_
        refine va_get (D := (dC, dI)) (ci := 12) (v := .ref kaM) (C := R_Md) (T := F_Md) (N := 83) hx hb hts i_Md hown hK hP 0 rfl rfl 78 (by decide) (hts _ gw_1496) (fun _ h9 => h9) rfl d_Md_deletes_13 ?_
        refine lv_iload_n hx hb d_Md_deletes_16 rfl (lv_at hl 3 rfl) ?_
        refine va_iald hx hb hK hP 5 0 rfl rfl (vp_in_nI (by omega) (by omega)) d_Md_deletes_17 ?_
        rw [show (nI i).toNatClampNeg = i from nI_clamp (by omega)]
        refine lv_if_lt (tgt := 24) hx hb d_Md_deletes_18 (by decide) (fun c_18 => ?_) (fun c_18 => ?_)
        · have hid : i ∈ D := (hka i n_9).mp c_18
          obtain ⟨hn1, hn2, hpf2⟩ := hpf.hit hup hid
          have hn3 : DX.getD n 0 = T.getD i 0 := by rw [hDX, getD_map hn1, hn2]
          have hn4 : n < DX.length := by rw [hDX, List.length_map]; exact hn1
          have hqx := hDF (DX.getD n 0) (getD_mem hn4)
          refine lv_iinc (v := nI (n + 1)) (lv' := [(2, .int (nI (n + 1))), (0, .ref md), (1, .int 0), (3, .int (nI i))]) hx hb d_Md_deletes_24 hl (k := 2) rfl (by exact nI_add _ _) (by decide) rfl (fun ls hl => ?_)
          refine lv_iload_n hx hb d_Md_deletes_27 rfl (lv_at hl 2 rfl) ?_
          refine lv_iconst (v := 1) hx hb d_Md_deletes_28 (by decide) ?_
          refine lv_icmp_ne (tgt := 38) hx hb d_Md_deletes_29 (by decide) (fun _ => ?_) (fun c_29 => absurd c_29 (by decide))
          refine lv_aload_n hx hb d_Md_deletes_38 rfl (lv_at hl 1 rfl) ?_
          refine lv_iload_n hx hb d_Md_deletes_39 rfl (lv_at hl 2 rfl) ?_
          refine lv_aload_n hx hb d_Md_deletes_40 rfl (lv_at hl 1 rfl) ?_
          refine va_get (D := (dC, dI)) (ci := 12) (v := .ref txM) (C := R_Md) (T := F_Md) (N := 83) hx hb hts i_Md hown hK hP 0 rfl rfl 56 (by decide) (hts _ gw_1474) (fun _ h9 => h9) rfl d_Md_deletes_41 ?_
          refine lv_iload_n hx hb d_Md_deletes_44 rfl (lv_at hl 3 rfl) ?_
          refine va_iald hx hb hK hP 6 0 rfl rfl (vp_in_nI (by omega) (by omega)) d_Md_deletes_45 ?_
          rw [show (nI i).toNatClampNeg = i from nI_clamp (by omega)]
          refine lv_topi (fun x_3 ex_3 => ?_)
          obtain rfl : x_3 = nI (DX.getD n 0) := by rw [ex_3]; first | done | (rw [hn3]; exact htx i n_9)
          obtain ⟨hq1, hq2, hq3, hq4, hq5, hq6⟩ := id (hqx)
          have hPc := va_P.part (cx := [(md, .inr (12, [md_tape, md_size, md_thrown, md_fault, md_bytes, md_used, md_at, md_length, md_depAt, md_firstChange, .ref hsA, md_deps, md_patches, md_sort, .ref ofM, md_fileOf, md_one, md_two, md_nameAt, md_nameSize, md_overAt, md_overCount, md_lineAt, md_lineCount, md_changes, md_overs, md_overTotal, .ref lhM, md_textAt, md_textSize, md_lines, md_fileChange, md_fileLines, md_files, md_sets, md_stamp, md_digest, md_in, md_pos, md_stop, md_wrong, md_dep, md_named, md_depCount, md_own, md_refFile, md_full, md_h, md_counts, md_marked, md_namings, md_namingCount, md_listed, md_listedCount, md_listedStamp, md_member, .ref txM, md_place, md_dead, md_edge, md_way, md_members, .int (nI no), md_unsure, md_workedRepository, md_workedFile, md_workedStamp, md_stack, md_before, md_left, md_made, md_madeSize, .ref ndM, .int (nI Lu.length), md_newAt, md_newSize, md_news, md_common, .ref kaM, md_isNew, md_keptFrom, md_stateOf, md_rising])), (ndM, .inl (cI, 500, .inl ndu)), (hsA, .inl (cBB, 500, .inr (.inr (.inr (.inr gh))))), (ofM, .inl (cI, 38000, .inl of)), (lhM, .inl (cI, 4000, .inl lh))]) hP [0, 1, 2, 3, 4] rfl
          have hDc := va_D.part (cx := [(md, .inr (12, [md_tape, md_size, md_thrown, md_fault, md_bytes, md_used, md_at, md_length, md_depAt, md_firstChange, .ref hsA, md_deps, md_patches, md_sort, .ref ofM, md_fileOf, md_one, md_two, md_nameAt, md_nameSize, md_overAt, md_overCount, md_lineAt, md_lineCount, md_changes, md_overs, md_overTotal, .ref lhM, md_textAt, md_textSize, md_lines, md_fileChange, md_fileLines, md_files, md_sets, md_stamp, md_digest, md_in, md_pos, md_stop, md_wrong, md_dep, md_named, md_depCount, md_own, md_refFile, md_full, md_h, md_counts, md_marked, md_namings, md_namingCount, md_listed, md_listedCount, md_listedStamp, md_member, .ref txM, md_place, md_dead, md_edge, md_way, md_members, .int (nI no), md_unsure, md_workedRepository, md_workedFile, md_workedStamp, md_stack, md_before, md_left, md_made, md_madeSize, .ref ndM, .int (nI Lu.length), md_newAt, md_newSize, md_news, md_common, .ref kaM, md_isNew, md_keptFrom, md_stateOf, md_rising])), (ndM, .inl (cI, 500, .inl ndu)), (hsA, .inl (cBB, 500, .inr (.inr (.inr (.inr gh))))), (ofM, .inl (cI, 38000, .inl of)), (lhM, .inl (cI, 4000, .inl lh))]) hD [0, 1, 2, 3, 4] (by decide) rfl
          have hFc := va_freeP (cx := [(md, .inr (12, [md_tape, md_size, md_thrown, md_fault, md_bytes, md_used, md_at, md_length, md_depAt, md_firstChange, .ref hsA, md_deps, md_patches, md_sort, .ref ofM, md_fileOf, md_one, md_two, md_nameAt, md_nameSize, md_overAt, md_overCount, md_lineAt, md_lineCount, md_changes, md_overs, md_overTotal, .ref lhM, md_textAt, md_textSize, md_lines, md_fileChange, md_fileLines, md_files, md_sets, md_stamp, md_digest, md_in, md_pos, md_stop, md_wrong, md_dep, md_named, md_depCount, md_own, md_refFile, md_full, md_h, md_counts, md_marked, md_namings, md_namingCount, md_listed, md_listedCount, md_listedStamp, md_member, .ref txM, md_place, md_dead, md_edge, md_way, md_members, .int (nI no), md_unsure, md_workedRepository, md_workedFile, md_workedStamp, md_stack, md_before, md_left, md_made, md_madeSize, .ref ndM, .int (nI Lu.length), md_newAt, md_newSize, md_news, md_common, .ref kaM, md_isNew, md_keptFrom, md_stateOf, md_rising])), (ndM, .inl (cI, 500, .inl ndu)), (hsA, .inl (cBB, 500, .inr (.inr (.inr (.inr gh))))), (ofM, .inl (cI, 38000, .inl of)), (lhM, .inl (cI, 4000, .inl lh))]) hD hS hA [0, 1, 2, 3, 4] rfl
          refine va_callv (va_runV (As := [.int 0, .int (nI (DX.getD n 0))]) (rest := []) ⟨hx, hb, hml, hown, hts⟩ (m_Md_mention0 l dC dI cI cB cL cZ cR cBB cZZ cII md ndM hsA ofM lhM (md_tape) (md_size) (md_thrown) (md_fault) (md_bytes) (md_used) (md_at) (md_length) (md_depAt) (md_firstChange) (md_deps) (md_patches) (md_sort) (md_fileOf) (md_one) (md_two) (md_nameAt) (md_nameSize) (md_overAt) (md_overCount) (md_lineAt) (md_lineCount) (md_changes) (md_overs) (md_overTotal) (md_textAt) (md_textSize) (md_lines) (md_fileChange) (md_fileLines) (md_files) (md_sets) (md_stamp) (md_digest) (md_in) (md_pos) (md_stop) (md_wrong) (md_dep) (md_named) (md_depCount) (md_own) (md_refFile) (md_full) (md_h) (md_counts) (md_marked) (md_namings) (md_namingCount) (md_listed) (md_listedCount) (md_listedStamp) (md_member) (.ref txM) (md_place) (md_dead) (md_edge) (md_way) (md_members) (.int (nI no)) (md_unsure) (md_workedRepository) (md_workedFile) (md_workedStamp) (md_stack) (md_before) (md_left) (md_made) (md_madeSize) (md_newAt) (md_newSize) (md_news) (md_common) (.ref kaM) (md_isNew) (md_keptFrom) (md_stateOf) (md_rising) ndu of lh gh G Lu P9 (PC (LC (DX.getD n 0))) (LC (DX.getD n 0)) (DX.getD n 0) H.size hGn hP9 hgh hnd.1 hnd.2.1 hnd.2.2.1 (hnd.len hP9) hq5 (hnd.room hP9 hq5) hHd hq1 hq2 hq3 hq4) (cwV 2 hts (xg_V gw_2227 gw_2229 (xg_p 117 (q := (⟨"PatchStoreModel", "mention", "(II)V"⟩, 83)) (by decide +kernel)) gw_13 gw_2230) rfl rfl rfl (by decide +kernel) ⟨Nat.le_of_ble_eq_true rfl, Nat.le_of_ble_eq_true rfl⟩) ⟨xw_blind, va_recv hK hPc (ci := 12) (q0 := 0) rfl rfl, fun U hU hW => ⟨rfl, by rw [hU], by rw [hU]; exact hPc, va_K.moved hW.alike hK, hDc.weaken (fun _ _ _ _ => trivial)⟩⟩ rfl rfl hl.1 rfl (lv_room (Nat.le_of_ble_eq_true rfl)) d_Md_deletes_46 ⟨Nat.le_of_ble_eq_true rfl, Nat.le_of_ble_eq_true rfl⟩) hS (fun q _ h => hFc q h) hFc (fun nd8 t H1 locs ht hvm hw hB hz1 hk1 hS => ?_)
          obtain ⟨nd8, L8⟩ := nd8
          have hw_nd8 : arrL nd8 L8 ∧ srt (hsG G.H) L8 ∧ ∀ x, x ∈ L8 ↔ x = PC (LC (DX.getD n 0)) ∨ x ∈ Lu := hw
          have hq_nd8 := hq5
          obtain ⟨hP1, hK1, hD1⟩ := hB
          rw [ht] at hP1
          obtain ⟨hP, hD⟩ := va_joinP (wr := [(kaM, .inl (cI, 400, .inl ka)), (txM, .inl (cI, 400, .inl tx))]) (rx := [(md, .inr (12, [md_tape, md_size, md_thrown, md_fault, md_bytes, md_used, md_at, md_length, md_depAt, md_firstChange, .ref hsA, md_deps, md_patches, md_sort, .ref ofM, md_fileOf, md_one, md_two, md_nameAt, md_nameSize, md_overAt, md_overCount, md_lineAt, md_lineCount, md_changes, md_overs, md_overTotal, .ref lhM, md_textAt, md_textSize, md_lines, md_fileChange, md_fileLines, md_files, md_sets, md_stamp, md_digest, md_in, md_pos, md_stop, md_wrong, md_dep, md_named, md_depCount, md_own, md_refFile, md_full, md_h, md_counts, md_marked, md_namings, md_namingCount, md_listed, md_listedCount, md_listedStamp, md_member, .ref txM, md_place, md_dead, md_edge, md_way, md_members, .int (nI no), md_unsure, md_workedRepository, md_workedFile, md_workedStamp, md_stack, md_before, md_left, md_made, md_madeSize, .ref ndM, .int (nI L8.length), md_newAt, md_newSize, md_news, md_common, .ref kaM, md_isNew, md_keptFrom, md_stateOf, md_rising])), (ndM, .inl (cI, 500, .inl nd8)), (hsA, .inl (cBB, 500, .inr (.inr (.inr (.inr gh))))), (ofM, .inl (cI, 38000, .inl of)), (lhM, .inl (cI, 4000, .inl lh))]) (pl1 := gdA cI cB cZ G) hP hD [0, 1, 2, 3, 4] [5, 6] rfl rfl (by decide) (by decide) hk1 hFc hP1 hD1
          generalize H1 = H at hP hS ⊢
          have hP : va_P (dC, dI) classes (([(kaM, .inl (cI, 400, .inl ka)), (txM, .inl (cI, 400, .inl tx)), (md, .inr (12, [md_tape, md_size, md_thrown, md_fault, md_bytes, md_used, md_at, md_length, md_depAt, md_firstChange, .ref hsA, md_deps, md_patches, md_sort, .ref ofM, md_fileOf, md_one, md_two, md_nameAt, md_nameSize, md_overAt, md_overCount, md_lineAt, md_lineCount, md_changes, md_overs, md_overTotal, .ref lhM, md_textAt, md_textSize, md_lines, md_fileChange, md_fileLines, md_files, md_sets, md_stamp, md_digest, md_in, md_pos, md_stop, md_wrong, md_dep, md_named, md_depCount, md_own, md_refFile, md_full, md_h, md_counts, md_marked, md_namings, md_namingCount, md_listed, md_listedCount, md_listedStamp, md_member, .ref txM, md_place, md_dead, md_edge, md_way, md_members, .int (nI no), md_unsure, md_workedRepository, md_workedFile, md_workedStamp, md_stack, md_before, md_left, md_made, md_madeSize, .ref ndM, .int (nI L8.length), md_newAt, md_newSize, md_news, md_common, .ref kaM, md_isNew, md_keptFrom, md_stateOf, md_rising])), (ndM, .inl (cI, 500, .inl nd8)), (hsA, .inl (cBB, 500, .inr (.inr (.inr (.inr gh))))), (ofM, .inl (cI, 38000, .inl of)), (lhM, .inl (cI, 4000, .inl lh))] : va_W) ++ gdA cI cB cZ G) H := hP
          have hD : va_D A (([(kaM, .inl (cI, 400, .inl ka)), (txM, .inl (cI, 400, .inl tx)), (md, .inr (12, [md_tape, md_size, md_thrown, md_fault, md_bytes, md_used, md_at, md_length, md_depAt, md_firstChange, .ref hsA, md_deps, md_patches, md_sort, .ref ofM, md_fileOf, md_one, md_two, md_nameAt, md_nameSize, md_overAt, md_overCount, md_lineAt, md_lineCount, md_changes, md_overs, md_overTotal, .ref lhM, md_textAt, md_textSize, md_lines, md_fileChange, md_fileLines, md_files, md_sets, md_stamp, md_digest, md_in, md_pos, md_stop, md_wrong, md_dep, md_named, md_depCount, md_own, md_refFile, md_full, md_h, md_counts, md_marked, md_namings, md_namingCount, md_listed, md_listedCount, md_listedStamp, md_member, .ref txM, md_place, md_dead, md_edge, md_way, md_members, .int (nI no), md_unsure, md_workedRepository, md_workedFile, md_workedStamp, md_stack, md_before, md_left, md_made, md_madeSize, .ref ndM, .int (nI L8.length), md_newAt, md_newSize, md_news, md_common, .ref kaM, md_isNew, md_keptFrom, md_stateOf, md_rising])), (ndM, .inl (cI, 500, .inl nd8)), (hsA, .inl (cBB, 500, .inr (.inr (.inr (.inr gh))))), (ofM, .inl (cI, 38000, .inl of)), (lhM, .inl (cI, 4000, .inl lh))] : va_W) ++ gdA cI cB cZ G) := hD
          refine lv_iinc (v := nI (i + 1)) (lv' := [(3, .int (nI (i + 1))), (2, .int (nI (n + 1))), (0, .ref md), (1, .int 0)]) hx hb d_Md_deletes_49 hl (k := 3) rfl (by exact nI_add _ _) (by decide) rfl (fun ls hl => ?_)
          refine lv_goto (tgt := 4) hx hb d_Md_deletes_52 (by decide) ?_
          exact ih_4 (i + 1) (n + 1) nd8 L8 _ _ _ (by omega) (by omega) (hpf2) (hnd.put hw_nd8 hq_nd8 (fun x => dlC_nm hn4)) (va_P.part hP [2, 3, 4, 5, 6, 0, 1] rfl) (va_D.part hD [2, 3, 4, 5, 6, 0, 1] (by decide) rfl) hS (lv_sub hl [2, 3, 1, 0] rfl)
        · have hid : ¬ i ∈ D := fun z => c_18 ((hka i n_9).mpr z)
          refine lv_goto (tgt := 49) hx hb d_Md_deletes_21 (by decide) ?_
          refine lv_iinc (v := nI (i + 1)) (lv' := [(3, .int (nI (i + 1))), (0, .ref md), (1, .int 0), (2, .int (nI n))]) hx hb d_Md_deletes_49 hl (k := 3) rfl (by exact nI_add _ _) (by decide) rfl (fun ls hl => ?_)
          refine lv_goto (tgt := 4) hx hb d_Md_deletes_52 (by decide) ?_
          exact ih_4 (i + 1) n ndu Lu _ _ _ (by omega) (by omega) (hpf.miss hid) (hnd) hP hD hS (lv_sub hl [1, 2, 3, 0] rfl)
  exact loop_4 _ 0 0 ndf L0 _ _ _ (Nat.lt_succ_self _) (Nat.zero_le _) (pfx.zero _) (⟨hL1, hL2, hLP, fun x => ⟨Or.inr, fun z => z.elim (fun z => absurd z (nmF_nil rfl)) id⟩⟩) hP hD hS (lv_sub hl [2, 3, 1, 0] rfl)
set_option maxHeartbeats 4000000 in
set_option maxRecDepth 100000 in
/-- what is deleted, second pass -/
theorem m_Md_deletes1 (l : Launch) (dC : Nat → ClassId) (dI : Nat → Nat → Nat) (cI cB cL cZ cR : ClassId) (md mdA ndM ofM fcM lhM laM kaM txM : Nat) (md_tape md_size md_thrown md_fault md_bytes md_used md_at md_length md_depAt md_hashes md_deps md_patches md_sort md_fileOf md_one md_two md_nameAt md_nameSize md_overAt md_overCount md_lineCount md_changes md_overs md_overTotal md_textAt md_textSize md_lines md_fileChange md_fileLines md_files md_sets md_stamp md_digest md_in md_pos md_stop md_wrong md_dep md_named md_depCount md_own md_refFile md_full md_h md_counts md_marked md_namings md_namingCount md_listed md_listedCount md_listedStamp md_member md_place md_dead md_edge md_way md_members md_unsure md_workedRepository md_workedFile md_workedStamp md_stack md_before md_left md_needs md_newAt md_newSize md_news md_common md_isNew md_keptFrom md_stateOf md_rising : Value) (mb ndf of fcf lh la ka tx : Nat → Int32) (S : Stk) (pl : Nat → Int32) (PC LC CL : Nat → Nat) (WL : List Int32) (L D DX T : List Nat) (P9 no : Nat) (sz : Nat) (hP9 : P9 ≤ 500) (hno : no ≤ 200) (hto : T.length = no) (htx : ∀ i, i < no → tx i = nI (T.getD i 0)) (hka : ∀ i, i < no → (ka i < 0 ↔ i ∈ D)) (hup : upL D) (hDb : ∀ x, x ∈ D → x < no) (hDX : DX = D.map (fun i => T.getD i 0)) (hDF : ∀ x, x ∈ DX → lnZ S PC LC CL lh of fcf la P9 x) (hL1 : arrL ndf L) (hplQ : plQ pl L) (hmm9 : ∀ x, x ∈ DX → PC (LC x) ∈ L) (hrm : WL.length + 7 * DX.length ≤ 200000) : Met l y_Md_deletes ws_Md_deletes ({ frames := 4, cells := 0, slots := 0, locals := 240 }) (xw_Pc dC dI [(cI, .int), (cB, .byte), (cL, .long), (cZ, .boolean), (cR, .object "PatchStore$Repository")] [.ref md, .int 1] [(md, .inr (12, [md_tape, md_size, md_thrown, md_fault, md_bytes, md_used, md_at, md_length, md_depAt, .ref fcM, md_hashes, md_deps, md_patches, md_sort, .ref ofM, md_fileOf, md_one, md_two, md_nameAt, md_nameSize, md_overAt, md_overCount, .ref laM, md_lineCount, md_changes, md_overs, md_overTotal, .ref lhM, md_textAt, md_textSize, md_lines, md_fileChange, md_fileLines, md_files, md_sets, md_stamp, md_digest, md_in, md_pos, md_stop, md_wrong, md_dep, md_named, md_depCount, md_own, md_refFile, md_full, md_h, md_counts, md_marked, md_namings, md_namingCount, md_listed, md_listedCount, md_listedStamp, md_member, .ref txM, md_place, md_dead, md_edge, md_way, md_members, .int (nI no), md_unsure, md_workedRepository, md_workedFile, md_workedStamp, md_stack, md_before, md_left, .ref mdA, .int (nI WL.length), .ref ndM, md_needs, md_newAt, md_newSize, md_news, md_common, .ref kaM, md_isNew, md_keptFrom, md_stateOf, md_rising])), (mdA, .inl (cB, 200000, .inl (wrM mb WL))), (ndM, .inl (cI, 500, .inl ndf)), (ofM, .inl (cI, 38000, .inl of)), (fcM, .inl (cI, 501, .inl fcf)), (lhM, .inl (cI, 4000, .inl lh)), (laM, .inl (cI, 38000, .inl la)), (kaM, .inl (cI, 400, .inl ka)), (txM, .inl (cI, 400, .inl tx))] sz) (va_Qi (fun (r : Int32) (u : List Int32) => r = nI DX.length ∧ u = WL ++ chL S pl PC (dlC S LC DX)) (fun u t => xw_B dC dI [(cI, .int), (cB, .byte), (cL, .long), (cZ, .boolean), (cR, .object "PatchStore$Repository")] (va_A [(md, .inr (12, [md_tape, md_size, md_thrown, md_fault, md_bytes, md_used, md_at, md_length, md_depAt, .ref fcM, md_hashes, md_deps, md_patches, md_sort, .ref ofM, md_fileOf, md_one, md_two, md_nameAt, md_nameSize, md_overAt, md_overCount, .ref laM, md_lineCount, md_changes, md_overs, md_overTotal, .ref lhM, md_textAt, md_textSize, md_lines, md_fileChange, md_fileLines, md_files, md_sets, md_stamp, md_digest, md_in, md_pos, md_stop, md_wrong, md_dep, md_named, md_depCount, md_own, md_refFile, md_full, md_h, md_counts, md_marked, md_namings, md_namingCount, md_listed, md_listedCount, md_listedStamp, md_member, .ref txM, md_place, md_dead, md_edge, md_way, md_members, .int (nI no), md_unsure, md_workedRepository, md_workedFile, md_workedStamp, md_stack, md_before, md_left, .ref mdA, .int (nI WL.length), .ref ndM, md_needs, md_newAt, md_newSize, md_news, md_common, .ref kaM, md_isNew, md_keptFrom, md_stateOf, md_rising])), (mdA, .inl (cB, 200000, .inl (wrM mb WL))), (ndM, .inl (cI, 500, .inl ndf)), (ofM, .inl (cI, 38000, .inl of)), (fcM, .inl (cI, 501, .inl fcf)), (lhM, .inl (cI, 4000, .inl lh)), (laM, .inl (cI, 38000, .inl la)), (kaM, .inl (cI, 400, .inl ka)), (txM, .inl (cI, 400, .inl tx))] sz) [(md, .inr (12, [md_tape, md_size, md_thrown, md_fault, md_bytes, md_used, md_at, md_length, md_depAt, .ref fcM, md_hashes, md_deps, md_patches, md_sort, .ref ofM, md_fileOf, md_one, md_two, md_nameAt, md_nameSize, md_overAt, md_overCount, .ref laM, md_lineCount, md_changes, md_overs, md_overTotal, .ref lhM, md_textAt, md_textSize, md_lines, md_fileChange, md_fileLines, md_files, md_sets, md_stamp, md_digest, md_in, md_pos, md_stop, md_wrong, md_dep, md_named, md_depCount, md_own, md_refFile, md_full, md_h, md_counts, md_marked, md_namings, md_namingCount, md_listed, md_listedCount, md_listedStamp, md_member, .ref txM, md_place, md_dead, md_edge, md_way, md_members, .int (nI no), md_unsure, md_workedRepository, md_workedFile, md_workedStamp, md_stack, md_before, md_left, .ref mdA, .int (nI u.length), .ref ndM, md_needs, md_newAt, md_newSize, md_news, md_common, .ref kaM, md_isNew, md_keptFrom, md_stateOf, md_rising])), (mdA, .inl (cB, 200000, .inl (wrM mb u))), (ndM, .inl (cI, 500, .inl ndf)), (ofM, .inl (cI, 38000, .inl of)), (fcM, .inl (cI, 501, .inl fcf)), (lhM, .inl (cI, 4000, .inl lh)), (laM, .inl (cI, 38000, .inl la)), (kaM, .inl (cI, 400, .inl ka)), (txM, .inl (cI, 400, .inl tx))] t) (va_A [(md, .inr (12, [md_tape, md_size, md_thrown, md_fault, md_bytes, md_used, md_at, md_length, md_depAt, .ref fcM, md_hashes, md_deps, md_patches, md_sort, .ref ofM, md_fileOf, md_one, md_two, md_nameAt, md_nameSize, md_overAt, md_overCount, .ref laM, md_lineCount, md_changes, md_overs, md_overTotal, .ref lhM, md_textAt, md_textSize, md_lines, md_fileChange, md_fileLines, md_files, md_sets, md_stamp, md_digest, md_in, md_pos, md_stop, md_wrong, md_dep, md_named, md_depCount, md_own, md_refFile, md_full, md_h, md_counts, md_marked, md_namings, md_namingCount, md_listed, md_listedCount, md_listedStamp, md_member, .ref txM, md_place, md_dead, md_edge, md_way, md_members, .int (nI no), md_unsure, md_workedRepository, md_workedFile, md_workedStamp, md_stack, md_before, md_left, .ref mdA, .int (nI WL.length), .ref ndM, md_needs, md_newAt, md_newSize, md_news, md_common, .ref kaM, md_isNew, md_keptFrom, md_stateOf, md_rising])), (mdA, .inl (cB, 200000, .inl (wrM mb WL))), (ndM, .inl (cI, 500, .inl ndf)), (ofM, .inl (cI, 38000, .inl of)), (fcM, .inl (cI, 501, .inl fcf)), (lhM, .inl (cI, 4000, .inl lh)), (laM, .inl (cI, 38000, .inl la)), (kaM, .inl (cI, 400, .inl ka)), (txM, .inl (cI, 400, .inl tx))] sz)) 0 0 (va_A [(md, .inr (12, [md_tape, md_size, md_thrown, md_fault, md_bytes, md_used, md_at, md_length, md_depAt, .ref fcM, md_hashes, md_deps, md_patches, md_sort, .ref ofM, md_fileOf, md_one, md_two, md_nameAt, md_nameSize, md_overAt, md_overCount, .ref laM, md_lineCount, md_changes, md_overs, md_overTotal, .ref lhM, md_textAt, md_textSize, md_lines, md_fileChange, md_fileLines, md_files, md_sets, md_stamp, md_digest, md_in, md_pos, md_stop, md_wrong, md_dep, md_named, md_depCount, md_own, md_refFile, md_full, md_h, md_counts, md_marked, md_namings, md_namingCount, md_listed, md_listedCount, md_listedStamp, md_member, .ref txM, md_place, md_dead, md_edge, md_way, md_members, .int (nI no), md_unsure, md_workedRepository, md_workedFile, md_workedStamp, md_stack, md_before, md_left, .ref mdA, .int (nI WL.length), .ref ndM, md_needs, md_newAt, md_newSize, md_news, md_common, .ref kaM, md_isNew, md_keptFrom, md_stateOf, md_rising])), (mdA, .inl (cB, 200000, .inl (wrM mb WL))), (ndM, .inl (cI, 500, .inl ndf)), (ofM, .inl (cI, 38000, .inl of)), (fcM, .inl (cI, 501, .inl fcf)), (lhM, .inl (cI, 4000, .inl lh)), (laM, .inl (cI, 38000, .inl la)), (kaM, .inl (cI, 400, .inl ka)), (txM, .inl (cI, 400, .inl tx))] sz) := by
  refine Met.ofW (cc := prog_14_method_64_code) (maxL := 4) (ret := (Option.some Jvm.ClassFile.FieldType.int)) (by decide) rfl ?_
  intro p e s m args below meth c s₁ B hml hv
  obtain ⟨rfl, hsz, hP, hK, hD0⟩ := hv
  have hx := B.exec
  have hb := B.bytes
  have hr := B.returns
  have hts0 := atoms_spec (ws := ws_Md_deletes) B.pre
  have hts : ∀ w ∈ xg_1, w.before _ s = true := fun w h => hts0 w (List.mem_cons_of_mem _ h)
  have hown : s.vm.findClass "PatchStoreModel" = some m.cls := findClass_of_methodNamed B.named
  have hlocks := B.notSynchronized
  subst hsz
  have hD := hD0.self (sz := s.heap.size)
  generalize hAe : va_A [(md, .inr (12, [md_tape, md_size, md_thrown, md_fault, md_bytes, md_used, md_at, md_length, md_depAt, .ref fcM, md_hashes, md_deps, md_patches, md_sort, .ref ofM, md_fileOf, md_one, md_two, md_nameAt, md_nameSize, md_overAt, md_overCount, .ref laM, md_lineCount, md_changes, md_overs, md_overTotal, .ref lhM, md_textAt, md_textSize, md_lines, md_fileChange, md_fileLines, md_files, md_sets, md_stamp, md_digest, md_in, md_pos, md_stop, md_wrong, md_dep, md_named, md_depCount, md_own, md_refFile, md_full, md_h, md_counts, md_marked, md_namings, md_namingCount, md_listed, md_listedCount, md_listedStamp, md_member, .ref txM, md_place, md_dead, md_edge, md_way, md_members, .int (nI no), md_unsure, md_workedRepository, md_workedFile, md_workedStamp, md_stack, md_before, md_left, .ref mdA, .int (nI WL.length), .ref ndM, md_needs, md_newAt, md_newSize, md_news, md_common, .ref kaM, md_isNew, md_keptFrom, md_stateOf, md_rising])), (mdA, .inl (cB, 200000, .inl (wrM mb WL))), (ndM, .inl (cI, 500, .inl ndf)), (ofM, .inl (cI, 38000, .inl of)), (fcM, .inl (cI, 501, .inl fcf)), (lhM, .inl (cI, 4000, .inl lh)), (laM, .inl (cI, 38000, .inl la)), (kaM, .inl (cI, 400, .inl ka)), (txM, .inl (cI, 400, .inl tx))] s.heap.size = A at hD ⊢
  have hA : ∀ q : Nat, s.heap.size ≤ q → A q := fun q h => by rw [← hAe]; exact Or.inr h
  have hS : va_S A s.heap s.heap [] := va_S.rf
  have hl := lv_entry ([.ref md, .int 1]) (n := 4) (Nat.le_of_ble_eq_true rfl)
  rw [lg_entry_eq]
  generalize (lg_sl ([.ref md, .int 1]) ++ List.replicate (4 - (lg_sl ([.ref md, .int 1])).length) Slot.unset).toArray = ls at hl ⊢
  have hl : lv_has ls 4 [(0, .ref md), (1, .int 1)] := hl
  generalize hQe : MQ _ _ _ _ _ _ _ = Q
  refine lv_iconst (v := 0) hx hb d_Md_deletes_0 (by decide) ?_
  refine lv_topi (fun x_1 ex_1 => ?_)
  obtain rfl : x_1 = nI 0 := by rw [ex_1]; first | done | (exact rfl)
  refine lv_istore_n (lv' := [(2, .int (nI 0)), (0, .ref md), (1, .int 1)]) hx hb d_Md_deletes_1 rfl hl (by decide) rfl (fun ls hl => ?_)
  refine lv_iconst (v := 0) hx hb d_Md_deletes_2 (by decide) ?_
  refine lv_topi (fun x_2 ex_2 => ?_)
  obtain rfl : x_2 = nI 0 := by rw [ex_2]; first | done | (exact rfl)
  refine lv_istore_n (lv' := [(3, .int (nI 0)), (2, .int (nI 0)), (0, .ref md), (1, .int 1)]) hx hb d_Md_deletes_3 rfl hl (by decide) rfl (fun ls hl => ?_)
  have loop_4 : ∀ (n9 : Nat) (i : Nat) (n : Nat) (Wq : List Int32) (H : Heap) (locs : List Loc) (ls : Array Slot), no - i < n9 → (i ≤ no) → (pfx D i n) → (Wq = WL ++ chL S pl PC (dlC S LC (DX.take n))) → va_P (dC, dI) classes [(md, .inr (12, [md_tape, md_size, md_thrown, md_fault, md_bytes, md_used, md_at, md_length, md_depAt, .ref fcM, md_hashes, md_deps, md_patches, md_sort, .ref ofM, md_fileOf, md_one, md_two, md_nameAt, md_nameSize, md_overAt, md_overCount, .ref laM, md_lineCount, md_changes, md_overs, md_overTotal, .ref lhM, md_textAt, md_textSize, md_lines, md_fileChange, md_fileLines, md_files, md_sets, md_stamp, md_digest, md_in, md_pos, md_stop, md_wrong, md_dep, md_named, md_depCount, md_own, md_refFile, md_full, md_h, md_counts, md_marked, md_namings, md_namingCount, md_listed, md_listedCount, md_listedStamp, md_member, .ref txM, md_place, md_dead, md_edge, md_way, md_members, .int (nI no), md_unsure, md_workedRepository, md_workedFile, md_workedStamp, md_stack, md_before, md_left, .ref mdA, .int (nI Wq.length), .ref ndM, md_needs, md_newAt, md_newSize, md_news, md_common, .ref kaM, md_isNew, md_keptFrom, md_stateOf, md_rising])), (mdA, .inl (cB, 200000, .inl (wrM mb Wq))), (ndM, .inl (cI, 500, .inl ndf)), (ofM, .inl (cI, 38000, .inl of)), (fcM, .inl (cI, 501, .inl fcf)), (lhM, .inl (cI, 4000, .inl lh)), (laM, .inl (cI, 38000, .inl la)), (kaM, .inl (cI, 400, .inl ka)), (txM, .inl (cI, 400, .inl tx))] H → va_D A [(md, .inr (12, [md_tape, md_size, md_thrown, md_fault, md_bytes, md_used, md_at, md_length, md_depAt, .ref fcM, md_hashes, md_deps, md_patches, md_sort, .ref ofM, md_fileOf, md_one, md_two, md_nameAt, md_nameSize, md_overAt, md_overCount, .ref laM, md_lineCount, md_changes, md_overs, md_overTotal, .ref lhM, md_textAt, md_textSize, md_lines, md_fileChange, md_fileLines, md_files, md_sets, md_stamp, md_digest, md_in, md_pos, md_stop, md_wrong, md_dep, md_named, md_depCount, md_own, md_refFile, md_full, md_h, md_counts, md_marked, md_namings, md_namingCount, md_listed, md_listedCount, md_listedStamp, md_member, .ref txM, md_place, md_dead, md_edge, md_way, md_members, .int (nI no), md_unsure, md_workedRepository, md_workedFile, md_workedStamp, md_stack, md_before, md_left, .ref mdA, .int (nI Wq.length), .ref ndM, md_needs, md_newAt, md_newSize, md_news, md_common, .ref kaM, md_isNew, md_keptFrom, md_stateOf, md_rising])), (mdA, .inl (cB, 200000, .inl (wrM mb Wq))), (ndM, .inl (cI, 500, .inl ndf)), (ofM, .inl (cI, 38000, .inl of)), (fcM, .inl (cI, 501, .inl fcf)), (lhM, .inl (cI, 4000, .inl lh)), (laM, .inl (cI, 38000, .inl la)), (kaM, .inl (cI, 400, .inl ka)), (txM, .inl (cI, 400, .inl tx))] → va_S A s.heap H locs → lv_has ls 4 [(0, .ref md), (1, .int 1), (2, .int (nI n)), (3, .int (nI i))] → W p l e (headSpec ws_Md_deletes ({ frames := 4, cells := 0, slots := 0, locals := 240 })).room s m ([.ref md, .int 1] : List Value).toArray below meth c H locs 0 0 Q (F0 m 4 ls []) := by
    intro n9
    induction n9 with
    | zero => intro i n Wq H locs ls hm; exact absurd hm (Nat.not_lt_zero _)
    | succ n9 ih_4 =>
      intro i n Wq H locs ls hm hi hpf hWq hP hD hS hl
      have hn9 := hpf.1
      have hDl2 : DX.length = D.length := by rw [hDX, List.length_map]
      have hWl : Wq.length = WL.length + 7 * n := by rw [hWq, List.length_append, dlC_len, List.length_take]; omega
      refine lv_iload_n hx hb d_Md_deletes_4 rfl (lv_at hl 3 rfl) ?_
      refine lv_aload_n hx hb d_Md_deletes_5 rfl (lv_at hl 0 rfl) ?_
      refine va_get (D := (dC, dI)) (ci := 12) (v := .int (nI no)) (C := R_Md) (T := F_Md) (N := 83) hx hb hts i_Md hown hK hP 0 rfl rfl 62 (by decide) (hts _ gw_1480) (fun _ h9 => h9) rfl d_Md_deletes_6 ?_
      refine lv_icmp_ge (tgt := 55) hx hb d_Md_deletes_9 (by decide) (fun c_9 => ?_) (fun c_9 => ?_)
      · have n_9 : no ≤ i := (nI_leI (a := no) (b := i) (by omega) (by omega)).mp c_9
        refine lv_iload_n hx hb d_Md_deletes_55 rfl (lv_at hl 2 rfl) ?_
        have hin : i = no := by omega
        have hnD : n = DX.length := by rw [hDX, List.length_map]; exact hpf.end_ (fun x z => by rw [hin]; exact hDb x z)
        rw [hnD, List.take_length] at hWq
        rw [← hQe]
        exact W.iret (v := nI n) hx hb hr (fun t ht hW => ⟨⟨_, Wq, rfl, ⟨by rw [hnD], hWq⟩, by rw [ht]; exact hP, va_K.moved hW.alike hK, hD⟩, hS.F ht⟩) hS.2.2 d_Md_deletes_56
      · have n_9 : i < no := Nat.lt_of_not_le (fun z => c_9 ((nI_leI (a := no) (b := i) (by omega) (by omega)).mpr z))
        refine lv_aload_n hx hb d_Md_deletes_12 rfl (lv_at hl 0 rfl) ?_
        refine va_get (D := (dC, dI)) (ci := 12) (v := .ref kaM) (C := R_Md) (T := F_Md) (N := 83) hx hb hts i_Md hown hK hP 0 rfl rfl 78 (by decide) (hts _ gw_1496) (fun _ h9 => h9) rfl d_Md_deletes_13 ?_
        refine lv_iload_n hx hb d_Md_deletes_16 rfl (lv_at hl 3 rfl) ?_
        refine va_iald hx hb hK hP 7 0 rfl rfl (vp_in_nI (by omega) (by omega)) d_Md_deletes_17 ?_
        rw [show (nI i).toNatClampNeg = i from nI_clamp (by omega)]
        refine lv_if_lt (tgt := 24) hx hb d_Md_deletes_18 (by decide) (fun c_18 => ?_) (fun c_18 => ?_)
        · have hid : i ∈ D := (hka i n_9).mp c_18
          obtain ⟨hn1, hn2, hpf2⟩ := hpf.hit hup hid
          have hn3 : DX.getD n 0 = T.getD i 0 := by rw [hDX, getD_map hn1, hn2]
          have hn4 : n < DX.length := by rw [hDX, List.length_map]; exact hn1
          have hqx := hDF (DX.getD n 0) (getD_mem hn4)
          refine lv_iinc (v := nI (n + 1)) (lv' := [(2, .int (nI (n + 1))), (0, .ref md), (1, .int 1), (3, .int (nI i))]) hx hb d_Md_deletes_24 hl (k := 2) rfl (by exact nI_add _ _) (by decide) rfl (fun ls hl => ?_)
          refine lv_iload_n hx hb d_Md_deletes_27 rfl (lv_at hl 2 rfl) ?_
          refine lv_iconst (v := 1) hx hb d_Md_deletes_28 (by decide) ?_
          refine lv_icmp_ne (tgt := 38) hx hb d_Md_deletes_29 (by decide) (fun c_29 => absurd c_29 (by decide)) (fun _ => ?_)
          refine lv_aload_n hx hb d_Md_deletes_32 rfl (lv_at hl 1 rfl) ?_
          refine lv_iconst (v := 1) hx hb d_Md_deletes_33 (by decide) ?_
          refine lv_iconst (v := 3) hx hb d_Md_deletes_34 (by decide) ?_
          have hPc := hP.sub (ws' := [(md, .inr (12, [md_tape, md_size, md_thrown, md_fault, md_bytes, md_used, md_at, md_length, md_depAt, .ref fcM, md_hashes, md_deps, md_patches, md_sort, .ref ofM, md_fileOf, md_one, md_two, md_nameAt, md_nameSize, md_overAt, md_overCount, .ref laM, md_lineCount, md_changes, md_overs, md_overTotal, .ref lhM, md_textAt, md_textSize, md_lines, md_fileChange, md_fileLines, md_files, md_sets, md_stamp, md_digest, md_in, md_pos, md_stop, md_wrong, md_dep, md_named, md_depCount, md_own, md_refFile, md_full, md_h, md_counts, md_marked, md_namings, md_namingCount, md_listed, md_listedCount, md_listedStamp, md_member, .ref txM, md_place, md_dead, md_edge, md_way, md_members, .int (nI no), md_unsure, md_workedRepository, md_workedFile, md_workedStamp, md_stack, md_before, md_left, .ref mdA, .int (nI Wq.length), .ref ndM, md_needs, md_newAt, md_newSize, md_news, md_common, .ref kaM, md_isNew, md_keptFrom, md_stateOf, md_rising])), (mdA, .inl (cB, 200000, .inl (wrM mb Wq)))]) [0, 1] rfl
          have hDc := hD.sub (ws' := [(md, .inr (12, [md_tape, md_size, md_thrown, md_fault, md_bytes, md_used, md_at, md_length, md_depAt, .ref fcM, md_hashes, md_deps, md_patches, md_sort, .ref ofM, md_fileOf, md_one, md_two, md_nameAt, md_nameSize, md_overAt, md_overCount, .ref laM, md_lineCount, md_changes, md_overs, md_overTotal, .ref lhM, md_textAt, md_textSize, md_lines, md_fileChange, md_fileLines, md_files, md_sets, md_stamp, md_digest, md_in, md_pos, md_stop, md_wrong, md_dep, md_named, md_depCount, md_own, md_refFile, md_full, md_h, md_counts, md_marked, md_namings, md_namingCount, md_listed, md_listedCount, md_listedStamp, md_member, .ref txM, md_place, md_dead, md_edge, md_way, md_members, .int (nI no), md_unsure, md_workedRepository, md_workedFile, md_workedStamp, md_stack, md_before, md_left, .ref mdA, .int (nI Wq.length), .ref ndM, md_needs, md_newAt, md_newSize, md_news, md_common, .ref kaM, md_isNew, md_keptFrom, md_stateOf, md_rising])), (mdA, .inl (cB, 200000, .inl (wrM mb Wq)))]) [0, 1] (by decide) rfl
          have hFc := va_free (wc := [(md, .inr (12, [md_tape, md_size, md_thrown, md_fault, md_bytes, md_used, md_at, md_length, md_depAt, .ref fcM, md_hashes, md_deps, md_patches, md_sort, .ref ofM, md_fileOf, md_one, md_two, md_nameAt, md_nameSize, md_overAt, md_overCount, .ref laM, md_lineCount, md_changes, md_overs, md_overTotal, .ref lhM, md_textAt, md_textSize, md_lines, md_fileChange, md_fileLines, md_files, md_sets, md_stamp, md_digest, md_in, md_pos, md_stop, md_wrong, md_dep, md_named, md_depCount, md_own, md_refFile, md_full, md_h, md_counts, md_marked, md_namings, md_namingCount, md_listed, md_listedCount, md_listedStamp, md_member, .ref txM, md_place, md_dead, md_edge, md_way, md_members, .int (nI no), md_unsure, md_workedRepository, md_workedFile, md_workedStamp, md_stack, md_before, md_left, .ref mdA, .int (nI Wq.length), .ref ndM, md_needs, md_newAt, md_newSize, md_news, md_common, .ref kaM, md_isNew, md_keptFrom, md_stateOf, md_rising])), (mdA, .inl (cB, 200000, .inl (wrM mb Wq)))]) hD hS hA [0, 1] rfl
          refine va_callv (va_runV (As := [.int 1, .int 3]) (rest := []) ⟨hx, hb, hml, hown, hts⟩ (m_Md_say1 l dC dI cI cB cL cZ cR md mdA (md_tape) (md_size) (md_thrown) (md_fault) (md_bytes) (md_used) (md_at) (md_length) (md_depAt) (.ref fcM) (md_hashes) (md_deps) (md_patches) (md_sort) (.ref ofM) (md_fileOf) (md_one) (md_two) (md_nameAt) (md_nameSize) (md_overAt) (md_overCount) (.ref laM) (md_lineCount) (md_changes) (md_overs) (md_overTotal) (.ref lhM) (md_textAt) (md_textSize) (md_lines) (md_fileChange) (md_fileLines) (md_files) (md_sets) (md_stamp) (md_digest) (md_in) (md_pos) (md_stop) (md_wrong) (md_dep) (md_named) (md_depCount) (md_own) (md_refFile) (md_full) (md_h) (md_counts) (md_marked) (md_namings) (md_namingCount) (md_listed) (md_listedCount) (md_listedStamp) (md_member) (.ref txM) (md_place) (md_dead) (md_edge) (md_way) (md_members) (.int (nI no)) (md_unsure) (md_workedRepository) (md_workedFile) (md_workedStamp) (md_stack) (md_before) (md_left) (.ref ndM) (md_needs) (md_newAt) (md_newSize) (md_news) (md_common) (.ref kaM) (md_isNew) (md_keptFrom) (md_stateOf) (md_rising) mb Wq 3 H.size (by first | omega | (simp only [List.length_append, by2_len, List.length_cons, List.length_nil, rfW_len, lrW_len, byL_len]; omega))) (cwV 2 hts (xg_V gw_1701 gw_1703 (xg_p 73 (q := (⟨"PatchStoreModel", "say", "(II)V"⟩, 83)) (by decide +kernel)) gw_13 gw_1704) rfl rfl rfl (by decide +kernel) ⟨Nat.le_of_ble_eq_true rfl, Nat.le_of_ble_eq_true rfl⟩) ⟨xw_blind, va_recv hK hPc (ci := 12) (q0 := 0) rfl rfl, fun U hU hW => ⟨rfl, by rw [hU], by rw [hU]; exact hPc, va_K.moved hW.alike hK, hDc.weaken (fun _ _ _ _ => trivial)⟩⟩ rfl rfl hl.1 rfl (lv_room (Nat.le_of_ble_eq_true rfl)) d_Md_deletes_35 ⟨Nat.le_of_ble_eq_true rfl, Nat.le_of_ble_eq_true rfl⟩) hS (fun q _ h => hFc q h) hFc (fun u9 t H1 locs ht hvm hw hB hz1 hk1 hS => ?_)
          obtain ⟨hP1, hK1, hD1⟩ := hB
          rw [ht] at hP1
          obtain ⟨hP, hD⟩ := va_join (wr := [(ndM, .inl (cI, 500, .inl ndf)), (ofM, .inl (cI, 38000, .inl of)), (fcM, .inl (cI, 501, .inl fcf)), (lhM, .inl (cI, 4000, .inl lh)), (laM, .inl (cI, 38000, .inl la)), (kaM, .inl (cI, 400, .inl ka)), (txM, .inl (cI, 400, .inl tx))]) (w1 := [(md, .inr (12, [md_tape, md_size, md_thrown, md_fault, md_bytes, md_used, md_at, md_length, md_depAt, .ref fcM, md_hashes, md_deps, md_patches, md_sort, .ref ofM, md_fileOf, md_one, md_two, md_nameAt, md_nameSize, md_overAt, md_overCount, .ref laM, md_lineCount, md_changes, md_overs, md_overTotal, .ref lhM, md_textAt, md_textSize, md_lines, md_fileChange, md_fileLines, md_files, md_sets, md_stamp, md_digest, md_in, md_pos, md_stop, md_wrong, md_dep, md_named, md_depCount, md_own, md_refFile, md_full, md_h, md_counts, md_marked, md_namings, md_namingCount, md_listed, md_listedCount, md_listedStamp, md_member, .ref txM, md_place, md_dead, md_edge, md_way, md_members, .int (nI no), md_unsure, md_workedRepository, md_workedFile, md_workedStamp, md_stack, md_before, md_left, .ref mdA, .int (nI (Wq ++ [by1 3]).length), .ref ndM, md_needs, md_newAt, md_newSize, md_news, md_common, .ref kaM, md_isNew, md_keptFrom, md_stateOf, md_rising])), (mdA, .inl (cB, 200000, .inl (wrM mb (Wq ++ [by1 3]))))]) hP hD [0, 1] [2, 3, 4, 5, 6, 7, 8] rfl rfl (by decide) (by decide) hk1 hFc hP1 hD1
          generalize H1 = H at hP hS ⊢
          have hP : va_P (dC, dI) classes [(ndM, .inl (cI, 500, .inl ndf)), (ofM, .inl (cI, 38000, .inl of)), (fcM, .inl (cI, 501, .inl fcf)), (lhM, .inl (cI, 4000, .inl lh)), (laM, .inl (cI, 38000, .inl la)), (kaM, .inl (cI, 400, .inl ka)), (txM, .inl (cI, 400, .inl tx)), (md, .inr (12, [md_tape, md_size, md_thrown, md_fault, md_bytes, md_used, md_at, md_length, md_depAt, .ref fcM, md_hashes, md_deps, md_patches, md_sort, .ref ofM, md_fileOf, md_one, md_two, md_nameAt, md_nameSize, md_overAt, md_overCount, .ref laM, md_lineCount, md_changes, md_overs, md_overTotal, .ref lhM, md_textAt, md_textSize, md_lines, md_fileChange, md_fileLines, md_files, md_sets, md_stamp, md_digest, md_in, md_pos, md_stop, md_wrong, md_dep, md_named, md_depCount, md_own, md_refFile, md_full, md_h, md_counts, md_marked, md_namings, md_namingCount, md_listed, md_listedCount, md_listedStamp, md_member, .ref txM, md_place, md_dead, md_edge, md_way, md_members, .int (nI no), md_unsure, md_workedRepository, md_workedFile, md_workedStamp, md_stack, md_before, md_left, .ref mdA, .int (nI (Wq ++ [by1 3]).length), .ref ndM, md_needs, md_newAt, md_newSize, md_news, md_common, .ref kaM, md_isNew, md_keptFrom, md_stateOf, md_rising])), (mdA, .inl (cB, 200000, .inl (wrM mb (Wq ++ [by1 3]))))] H := hP
          have hD : va_D A [(ndM, .inl (cI, 500, .inl ndf)), (ofM, .inl (cI, 38000, .inl of)), (fcM, .inl (cI, 501, .inl fcf)), (lhM, .inl (cI, 4000, .inl lh)), (laM, .inl (cI, 38000, .inl la)), (kaM, .inl (cI, 400, .inl ka)), (txM, .inl (cI, 400, .inl tx)), (md, .inr (12, [md_tape, md_size, md_thrown, md_fault, md_bytes, md_used, md_at, md_length, md_depAt, .ref fcM, md_hashes, md_deps, md_patches, md_sort, .ref ofM, md_fileOf, md_one, md_two, md_nameAt, md_nameSize, md_overAt, md_overCount, .ref laM, md_lineCount, md_changes, md_overs, md_overTotal, .ref lhM, md_textAt, md_textSize, md_lines, md_fileChange, md_fileLines, md_files, md_sets, md_stamp, md_digest, md_in, md_pos, md_stop, md_wrong, md_dep, md_named, md_depCount, md_own, md_refFile, md_full, md_h, md_counts, md_marked, md_namings, md_namingCount, md_listed, md_listedCount, md_listedStamp, md_member, .ref txM, md_place, md_dead, md_edge, md_way, md_members, .int (nI no), md_unsure, md_workedRepository, md_workedFile, md_workedStamp, md_stack, md_before, md_left, .ref mdA, .int (nI (Wq ++ [by1 3]).length), .ref ndM, md_needs, md_newAt, md_newSize, md_news, md_common, .ref kaM, md_isNew, md_keptFrom, md_stateOf, md_rising])), (mdA, .inl (cB, 200000, .inl (wrM mb (Wq ++ [by1 3]))))] := hD
          refine lv_aload_n hx hb d_Md_deletes_38 rfl (lv_at hl 1 rfl) ?_
          refine lv_iload_n hx hb d_Md_deletes_39 rfl (lv_at hl 2 rfl) ?_
          refine lv_aload_n hx hb d_Md_deletes_40 rfl (lv_at hl 1 rfl) ?_
          refine va_get (D := (dC, dI)) (ci := 12) (v := .ref txM) (C := R_Md) (T := F_Md) (N := 83) hx hb hts i_Md hown hK hP 7 rfl rfl 56 (by decide) (hts _ gw_1474) (fun _ h9 => h9) rfl d_Md_deletes_41 ?_
          refine lv_iload_n hx hb d_Md_deletes_44 rfl (lv_at hl 3 rfl) ?_
          refine va_iald hx hb hK hP 6 0 rfl rfl (vp_in_nI (by omega) (by omega)) d_Md_deletes_45 ?_
          rw [show (nI i).toNatClampNeg = i from nI_clamp (by omega)]
          refine lv_topi (fun x_3 ex_3 => ?_)
          obtain rfl : x_3 = nI (DX.getD n 0) := by rw [ex_3]; first | done | (rw [hn3]; exact htx i n_9)
          obtain ⟨hq1, hq2, hq3, hq4, hq5, hq6, hq7, hq8, hq9, hq10⟩ := id (hqx)
          obtain ⟨kx, hk1, hk2, hk3, hk4, hk5⟩ := hplQ.ix hL1 (hmm9 _ (getD_mem hn4))
          have hPc := hP.sub (ws' := [(md, .inr (12, [md_tape, md_size, md_thrown, md_fault, md_bytes, md_used, md_at, md_length, md_depAt, .ref fcM, md_hashes, md_deps, md_patches, md_sort, .ref ofM, md_fileOf, md_one, md_two, md_nameAt, md_nameSize, md_overAt, md_overCount, .ref laM, md_lineCount, md_changes, md_overs, md_overTotal, .ref lhM, md_textAt, md_textSize, md_lines, md_fileChange, md_fileLines, md_files, md_sets, md_stamp, md_digest, md_in, md_pos, md_stop, md_wrong, md_dep, md_named, md_depCount, md_own, md_refFile, md_full, md_h, md_counts, md_marked, md_namings, md_namingCount, md_listed, md_listedCount, md_listedStamp, md_member, .ref txM, md_place, md_dead, md_edge, md_way, md_members, .int (nI no), md_unsure, md_workedRepository, md_workedFile, md_workedStamp, md_stack, md_before, md_left, .ref mdA, .int (nI (Wq ++ [by1 3]).length), .ref ndM, md_needs, md_newAt, md_newSize, md_news, md_common, .ref kaM, md_isNew, md_keptFrom, md_stateOf, md_rising])), (mdA, .inl (cB, 200000, .inl (wrM mb (Wq ++ [by1 3])))), (ndM, .inl (cI, 500, .inl ndf)), (ofM, .inl (cI, 38000, .inl of)), (fcM, .inl (cI, 501, .inl fcf)), (lhM, .inl (cI, 4000, .inl lh)), (laM, .inl (cI, 38000, .inl la))]) [7, 8, 0, 1, 2, 3, 4] rfl
          have hDc := hD.sub (ws' := [(md, .inr (12, [md_tape, md_size, md_thrown, md_fault, md_bytes, md_used, md_at, md_length, md_depAt, .ref fcM, md_hashes, md_deps, md_patches, md_sort, .ref ofM, md_fileOf, md_one, md_two, md_nameAt, md_nameSize, md_overAt, md_overCount, .ref laM, md_lineCount, md_changes, md_overs, md_overTotal, .ref lhM, md_textAt, md_textSize, md_lines, md_fileChange, md_fileLines, md_files, md_sets, md_stamp, md_digest, md_in, md_pos, md_stop, md_wrong, md_dep, md_named, md_depCount, md_own, md_refFile, md_full, md_h, md_counts, md_marked, md_namings, md_namingCount, md_listed, md_listedCount, md_listedStamp, md_member, .ref txM, md_place, md_dead, md_edge, md_way, md_members, .int (nI no), md_unsure, md_workedRepository, md_workedFile, md_workedStamp, md_stack, md_before, md_left, .ref mdA, .int (nI (Wq ++ [by1 3]).length), .ref ndM, md_needs, md_newAt, md_newSize, md_news, md_common, .ref kaM, md_isNew, md_keptFrom, md_stateOf, md_rising])), (mdA, .inl (cB, 200000, .inl (wrM mb (Wq ++ [by1 3])))), (ndM, .inl (cI, 500, .inl ndf)), (ofM, .inl (cI, 38000, .inl of)), (fcM, .inl (cI, 501, .inl fcf)), (lhM, .inl (cI, 4000, .inl lh)), (laM, .inl (cI, 38000, .inl la))]) [7, 8, 0, 1, 2, 3, 4] (by decide) rfl
          have hFc := va_free (wc := [(md, .inr (12, [md_tape, md_size, md_thrown, md_fault, md_bytes, md_used, md_at, md_length, md_depAt, .ref fcM, md_hashes, md_deps, md_patches, md_sort, .ref ofM, md_fileOf, md_one, md_two, md_nameAt, md_nameSize, md_overAt, md_overCount, .ref laM, md_lineCount, md_changes, md_overs, md_overTotal, .ref lhM, md_textAt, md_textSize, md_lines, md_fileChange, md_fileLines, md_files, md_sets, md_stamp, md_digest, md_in, md_pos, md_stop, md_wrong, md_dep, md_named, md_depCount, md_own, md_refFile, md_full, md_h, md_counts, md_marked, md_namings, md_namingCount, md_listed, md_listedCount, md_listedStamp, md_member, .ref txM, md_place, md_dead, md_edge, md_way, md_members, .int (nI no), md_unsure, md_workedRepository, md_workedFile, md_workedStamp, md_stack, md_before, md_left, .ref mdA, .int (nI (Wq ++ [by1 3]).length), .ref ndM, md_needs, md_newAt, md_newSize, md_news, md_common, .ref kaM, md_isNew, md_keptFrom, md_stateOf, md_rising])), (mdA, .inl (cB, 200000, .inl (wrM mb (Wq ++ [by1 3])))), (ndM, .inl (cI, 500, .inl ndf)), (ofM, .inl (cI, 38000, .inl of)), (fcM, .inl (cI, 501, .inl fcf)), (lhM, .inl (cI, 4000, .inl lh)), (laM, .inl (cI, 38000, .inl la))]) hD hS hA [7, 8, 0, 1, 2, 3, 4] rfl
          refine va_callv (va_runV (As := [.int 1, .int (nI (DX.getD n 0))]) (rest := []) ⟨hx, hb, hml, hown, hts⟩ (m_Md_mention1 l dC dI cI cB cL cZ cR md mdA ndM ofM fcM lhM laM (md_tape) (md_size) (md_thrown) (md_fault) (md_bytes) (md_used) (md_at) (md_length) (md_depAt) (md_hashes) (md_deps) (md_patches) (md_sort) (md_fileOf) (md_one) (md_two) (md_nameAt) (md_nameSize) (md_overAt) (md_overCount) (md_lineCount) (md_changes) (md_overs) (md_overTotal) (md_textAt) (md_textSize) (md_lines) (md_fileChange) (md_fileLines) (md_files) (md_sets) (md_stamp) (md_digest) (md_in) (md_pos) (md_stop) (md_wrong) (md_dep) (md_named) (md_depCount) (md_own) (md_refFile) (md_full) (md_h) (md_counts) (md_marked) (md_namings) (md_namingCount) (md_listed) (md_listedCount) (md_listedStamp) (md_member) (.ref txM) (md_place) (md_dead) (md_edge) (md_way) (md_members) (.int (nI no)) (md_unsure) (md_workedRepository) (md_workedFile) (md_workedStamp) (md_stack) (md_before) (md_left) (md_needs) (md_newAt) (md_newSize) (md_news) (md_common) (.ref kaM) (md_isNew) (md_keptFrom) (md_stateOf) (md_rising) mb ndf of fcf lh la (fun i => L.getD i 0) S.FC (Wq ++ [by1 3]) (LC (DX.getD n 0)) (PC (LC (DX.getD n 0))) kx (DX.getD n 0) (CL (LC (DX.getD n 0))) H.size (by first | omega | (simp only [List.length_append, by2_len, List.length_cons, List.length_nil, rfW_len, lrW_len, byL_len]; omega)) hk1 hk2 hk3 hk4 hq3 hq4 (by omega) hq6 hq7 hq1 hq2 hq8 hq9) (cwV 2 hts (xg_V gw_2227 gw_2229 (xg_p 117 (q := (⟨"PatchStoreModel", "mention", "(II)V"⟩, 83)) (by decide +kernel)) gw_13 gw_2230) rfl rfl rfl (by decide +kernel) ⟨Nat.le_of_ble_eq_true rfl, Nat.le_of_ble_eq_true rfl⟩) ⟨xw_blind, va_recv hK hPc (ci := 12) (q0 := 0) rfl rfl, fun U hU hW => ⟨rfl, by rw [hU], by rw [hU]; exact hPc, va_K.moved hW.alike hK, hDc.weaken (fun _ _ _ _ => trivial)⟩⟩ rfl rfl hl.1 rfl (lv_room (Nat.le_of_ble_eq_true rfl)) d_Md_deletes_46 ⟨Nat.le_of_ble_eq_true rfl, Nat.le_of_ble_eq_true rfl⟩) hS (fun q _ h => hFc q h) hFc (fun u9 t H1 locs ht hvm hw hB hz1 hk1 hS => ?_)
          obtain ⟨hP1, hK1, hD1⟩ := hB
          rw [ht] at hP1
          obtain ⟨hP, hD⟩ := va_join (wr := [(kaM, .inl (cI, 400, .inl ka)), (txM, .inl (cI, 400, .inl tx))]) (w1 := [(md, .inr (12, [md_tape, md_size, md_thrown, md_fault, md_bytes, md_used, md_at, md_length, md_depAt, .ref fcM, md_hashes, md_deps, md_patches, md_sort, .ref ofM, md_fileOf, md_one, md_two, md_nameAt, md_nameSize, md_overAt, md_overCount, .ref laM, md_lineCount, md_changes, md_overs, md_overTotal, .ref lhM, md_textAt, md_textSize, md_lines, md_fileChange, md_fileLines, md_files, md_sets, md_stamp, md_digest, md_in, md_pos, md_stop, md_wrong, md_dep, md_named, md_depCount, md_own, md_refFile, md_full, md_h, md_counts, md_marked, md_namings, md_namingCount, md_listed, md_listedCount, md_listedStamp, md_member, .ref txM, md_place, md_dead, md_edge, md_way, md_members, .int (nI no), md_unsure, md_workedRepository, md_workedFile, md_workedStamp, md_stack, md_before, md_left, .ref mdA, .int (nI ((Wq ++ [by1 3]) ++ ((by2 (nI kx) ++ by2 (nI (LC (DX.getD n 0) - S.FC (PC (LC (DX.getD n 0)))))) ++ by2 (nI ((DX.getD n 0) - CL (LC (DX.getD n 0)))))).length), .ref ndM, md_needs, md_newAt, md_newSize, md_news, md_common, .ref kaM, md_isNew, md_keptFrom, md_stateOf, md_rising])), (mdA, .inl (cB, 200000, .inl (wrM mb ((Wq ++ [by1 3]) ++ ((by2 (nI kx) ++ by2 (nI (LC (DX.getD n 0) - S.FC (PC (LC (DX.getD n 0)))))) ++ by2 (nI ((DX.getD n 0) - CL (LC (DX.getD n 0))))))))), (ndM, .inl (cI, 500, .inl ndf)), (ofM, .inl (cI, 38000, .inl of)), (fcM, .inl (cI, 501, .inl fcf)), (lhM, .inl (cI, 4000, .inl lh)), (laM, .inl (cI, 38000, .inl la))]) hP hD [7, 8, 0, 1, 2, 3, 4] [5, 6] rfl rfl (by decide) (by decide) hk1 hFc hP1 hD1
          generalize H1 = H at hP hS ⊢
          have hP : va_P (dC, dI) classes [(kaM, .inl (cI, 400, .inl ka)), (txM, .inl (cI, 400, .inl tx)), (md, .inr (12, [md_tape, md_size, md_thrown, md_fault, md_bytes, md_used, md_at, md_length, md_depAt, .ref fcM, md_hashes, md_deps, md_patches, md_sort, .ref ofM, md_fileOf, md_one, md_two, md_nameAt, md_nameSize, md_overAt, md_overCount, .ref laM, md_lineCount, md_changes, md_overs, md_overTotal, .ref lhM, md_textAt, md_textSize, md_lines, md_fileChange, md_fileLines, md_files, md_sets, md_stamp, md_digest, md_in, md_pos, md_stop, md_wrong, md_dep, md_named, md_depCount, md_own, md_refFile, md_full, md_h, md_counts, md_marked, md_namings, md_namingCount, md_listed, md_listedCount, md_listedStamp, md_member, .ref txM, md_place, md_dead, md_edge, md_way, md_members, .int (nI no), md_unsure, md_workedRepository, md_workedFile, md_workedStamp, md_stack, md_before, md_left, .ref mdA, .int (nI ((Wq ++ [by1 3]) ++ ((by2 (nI kx) ++ by2 (nI (LC (DX.getD n 0) - S.FC (PC (LC (DX.getD n 0)))))) ++ by2 (nI ((DX.getD n 0) - CL (LC (DX.getD n 0)))))).length), .ref ndM, md_needs, md_newAt, md_newSize, md_news, md_common, .ref kaM, md_isNew, md_keptFrom, md_stateOf, md_rising])), (mdA, .inl (cB, 200000, .inl (wrM mb ((Wq ++ [by1 3]) ++ ((by2 (nI kx) ++ by2 (nI (LC (DX.getD n 0) - S.FC (PC (LC (DX.getD n 0)))))) ++ by2 (nI ((DX.getD n 0) - CL (LC (DX.getD n 0))))))))), (ndM, .inl (cI, 500, .inl ndf)), (ofM, .inl (cI, 38000, .inl of)), (fcM, .inl (cI, 501, .inl fcf)), (lhM, .inl (cI, 4000, .inl lh)), (laM, .inl (cI, 38000, .inl la))] H := hP
          have hD : va_D A [(kaM, .inl (cI, 400, .inl ka)), (txM, .inl (cI, 400, .inl tx)), (md, .inr (12, [md_tape, md_size, md_thrown, md_fault, md_bytes, md_used, md_at, md_length, md_depAt, .ref fcM, md_hashes, md_deps, md_patches, md_sort, .ref ofM, md_fileOf, md_one, md_two, md_nameAt, md_nameSize, md_overAt, md_overCount, .ref laM, md_lineCount, md_changes, md_overs, md_overTotal, .ref lhM, md_textAt, md_textSize, md_lines, md_fileChange, md_fileLines, md_files, md_sets, md_stamp, md_digest, md_in, md_pos, md_stop, md_wrong, md_dep, md_named, md_depCount, md_own, md_refFile, md_full, md_h, md_counts, md_marked, md_namings, md_namingCount, md_listed, md_listedCount, md_listedStamp, md_member, .ref txM, md_place, md_dead, md_edge, md_way, md_members, .int (nI no), md_unsure, md_workedRepository, md_workedFile, md_workedStamp, md_stack, md_before, md_left, .ref mdA, .int (nI ((Wq ++ [by1 3]) ++ ((by2 (nI kx) ++ by2 (nI (LC (DX.getD n 0) - S.FC (PC (LC (DX.getD n 0)))))) ++ by2 (nI ((DX.getD n 0) - CL (LC (DX.getD n 0)))))).length), .ref ndM, md_needs, md_newAt, md_newSize, md_news, md_common, .ref kaM, md_isNew, md_keptFrom, md_stateOf, md_rising])), (mdA, .inl (cB, 200000, .inl (wrM mb ((Wq ++ [by1 3]) ++ ((by2 (nI kx) ++ by2 (nI (LC (DX.getD n 0) - S.FC (PC (LC (DX.getD n 0)))))) ++ by2 (nI ((DX.getD n 0) - CL (LC (DX.getD n 0))))))))), (ndM, .inl (cI, 500, .inl ndf)), (ofM, .inl (cI, 38000, .inl of)), (fcM, .inl (cI, 501, .inl fcf)), (lhM, .inl (cI, 4000, .inl lh)), (laM, .inl (cI, 38000, .inl la))] := hD
          have hWe : ((Wq ++ [by1 3]) ++ ((by2 (nI kx) ++ by2 (nI (LC (DX.getD n 0) - S.FC (PC (LC (DX.getD n 0)))))) ++ by2 (nI ((DX.getD n 0) - CL (LC (DX.getD n 0)))))) = ((Wq ++ [by1 3]) ++ lrW S pl (PC (LC (DX.getD n 0))) (LC (DX.getD n 0)) (DX.getD n 0)) := by rw [lrW_ref hqx hk5]
          have hP := (congrArg (fun z9 => va_P (dC, dI) classes [(kaM, .inl (cI, 400, .inl ka)), (txM, .inl (cI, 400, .inl tx)), (md, .inr (12, [md_tape, md_size, md_thrown, md_fault, md_bytes, md_used, md_at, md_length, md_depAt, .ref fcM, md_hashes, md_deps, md_patches, md_sort, .ref ofM, md_fileOf, md_one, md_two, md_nameAt, md_nameSize, md_overAt, md_overCount, .ref laM, md_lineCount, md_changes, md_overs, md_overTotal, .ref lhM, md_textAt, md_textSize, md_lines, md_fileChange, md_fileLines, md_files, md_sets, md_stamp, md_digest, md_in, md_pos, md_stop, md_wrong, md_dep, md_named, md_depCount, md_own, md_refFile, md_full, md_h, md_counts, md_marked, md_namings, md_namingCount, md_listed, md_listedCount, md_listedStamp, md_member, .ref txM, md_place, md_dead, md_edge, md_way, md_members, .int (nI no), md_unsure, md_workedRepository, md_workedFile, md_workedStamp, md_stack, md_before, md_left, .ref mdA, .int (nI z9.length), .ref ndM, md_needs, md_newAt, md_newSize, md_news, md_common, .ref kaM, md_isNew, md_keptFrom, md_stateOf, md_rising])), (mdA, .inl (cB, 200000, .inl (wrM mb z9))), (ndM, .inl (cI, 500, .inl ndf)), (ofM, .inl (cI, 38000, .inl of)), (fcM, .inl (cI, 501, .inl fcf)), (lhM, .inl (cI, 4000, .inl lh)), (laM, .inl (cI, 38000, .inl la))] H) hWe).mp hP
          have hD := (congrArg (fun z9 => va_D A [(kaM, .inl (cI, 400, .inl ka)), (txM, .inl (cI, 400, .inl tx)), (md, .inr (12, [md_tape, md_size, md_thrown, md_fault, md_bytes, md_used, md_at, md_length, md_depAt, .ref fcM, md_hashes, md_deps, md_patches, md_sort, .ref ofM, md_fileOf, md_one, md_two, md_nameAt, md_nameSize, md_overAt, md_overCount, .ref laM, md_lineCount, md_changes, md_overs, md_overTotal, .ref lhM, md_textAt, md_textSize, md_lines, md_fileChange, md_fileLines, md_files, md_sets, md_stamp, md_digest, md_in, md_pos, md_stop, md_wrong, md_dep, md_named, md_depCount, md_own, md_refFile, md_full, md_h, md_counts, md_marked, md_namings, md_namingCount, md_listed, md_listedCount, md_listedStamp, md_member, .ref txM, md_place, md_dead, md_edge, md_way, md_members, .int (nI no), md_unsure, md_workedRepository, md_workedFile, md_workedStamp, md_stack, md_before, md_left, .ref mdA, .int (nI z9.length), .ref ndM, md_needs, md_newAt, md_newSize, md_news, md_common, .ref kaM, md_isNew, md_keptFrom, md_stateOf, md_rising])), (mdA, .inl (cB, 200000, .inl (wrM mb z9))), (ndM, .inl (cI, 500, .inl ndf)), (ofM, .inl (cI, 38000, .inl of)), (fcM, .inl (cI, 501, .inl fcf)), (lhM, .inl (cI, 4000, .inl lh)), (laM, .inl (cI, 38000, .inl la))]) hWe).mp hD
          have hP : va_P (dC, dI) classes [(kaM, .inl (cI, 400, .inl ka)), (txM, .inl (cI, 400, .inl tx)), (md, .inr (12, [md_tape, md_size, md_thrown, md_fault, md_bytes, md_used, md_at, md_length, md_depAt, .ref fcM, md_hashes, md_deps, md_patches, md_sort, .ref ofM, md_fileOf, md_one, md_two, md_nameAt, md_nameSize, md_overAt, md_overCount, .ref laM, md_lineCount, md_changes, md_overs, md_overTotal, .ref lhM, md_textAt, md_textSize, md_lines, md_fileChange, md_fileLines, md_files, md_sets, md_stamp, md_digest, md_in, md_pos, md_stop, md_wrong, md_dep, md_named, md_depCount, md_own, md_refFile, md_full, md_h, md_counts, md_marked, md_namings, md_namingCount, md_listed, md_listedCount, md_listedStamp, md_member, .ref txM, md_place, md_dead, md_edge, md_way, md_members, .int (nI no), md_unsure, md_workedRepository, md_workedFile, md_workedStamp, md_stack, md_before, md_left, .ref mdA, .int (nI ((Wq ++ [by1 3]) ++ lrW S pl (PC (LC (DX.getD n 0))) (LC (DX.getD n 0)) (DX.getD n 0)).length), .ref ndM, md_needs, md_newAt, md_newSize, md_news, md_common, .ref kaM, md_isNew, md_keptFrom, md_stateOf, md_rising])), (mdA, .inl (cB, 200000, .inl (wrM mb ((Wq ++ [by1 3]) ++ lrW S pl (PC (LC (DX.getD n 0))) (LC (DX.getD n 0)) (DX.getD n 0))))), (ndM, .inl (cI, 500, .inl ndf)), (ofM, .inl (cI, 38000, .inl of)), (fcM, .inl (cI, 501, .inl fcf)), (lhM, .inl (cI, 4000, .inl lh)), (laM, .inl (cI, 38000, .inl la))] H := hP
          have hD : va_D A [(kaM, .inl (cI, 400, .inl ka)), (txM, .inl (cI, 400, .inl tx)), (md, .inr (12, [md_tape, md_size, md_thrown, md_fault, md_bytes, md_used, md_at, md_length, md_depAt, .ref fcM, md_hashes, md_deps, md_patches, md_sort, .ref ofM, md_fileOf, md_one, md_two, md_nameAt, md_nameSize, md_overAt, md_overCount, .ref laM, md_lineCount, md_changes, md_overs, md_overTotal, .ref lhM, md_textAt, md_textSize, md_lines, md_fileChange, md_fileLines, md_files, md_sets, md_stamp, md_digest, md_in, md_pos, md_stop, md_wrong, md_dep, md_named, md_depCount, md_own, md_refFile, md_full, md_h, md_counts, md_marked, md_namings, md_namingCount, md_listed, md_listedCount, md_listedStamp, md_member, .ref txM, md_place, md_dead, md_edge, md_way, md_members, .int (nI no), md_unsure, md_workedRepository, md_workedFile, md_workedStamp, md_stack, md_before, md_left, .ref mdA, .int (nI ((Wq ++ [by1 3]) ++ lrW S pl (PC (LC (DX.getD n 0))) (LC (DX.getD n 0)) (DX.getD n 0)).length), .ref ndM, md_needs, md_newAt, md_newSize, md_news, md_common, .ref kaM, md_isNew, md_keptFrom, md_stateOf, md_rising])), (mdA, .inl (cB, 200000, .inl (wrM mb ((Wq ++ [by1 3]) ++ lrW S pl (PC (LC (DX.getD n 0))) (LC (DX.getD n 0)) (DX.getD n 0))))), (ndM, .inl (cI, 500, .inl ndf)), (ofM, .inl (cI, 38000, .inl of)), (fcM, .inl (cI, 501, .inl fcf)), (lhM, .inl (cI, 4000, .inl lh)), (laM, .inl (cI, 38000, .inl la))] := hD
          refine lv_iinc (v := nI (i + 1)) (lv' := [(3, .int (nI (i + 1))), (2, .int (nI (n + 1))), (0, .ref md), (1, .int 1)]) hx hb d_Md_deletes_49 hl (k := 3) rfl (by exact nI_add _ _) (by decide) rfl (fun ls hl => ?_)
          refine lv_goto (tgt := 4) hx hb d_Md_deletes_52 (by decide) ?_
          exact ih_4 (i + 1) (n + 1) ((Wq ++ [by1 3]) ++ lrW S pl (PC (LC (DX.getD n 0))) (LC (DX.getD n 0)) (DX.getD n 0)) _ _ _ (by omega) (by omega) (hpf2) (by rw [hWq, dlC_by hn4]; simp only [List.append_assoc]) (hP.sub [2, 3, 4, 5, 6, 7, 8, 0, 1] rfl) (hD.sub [2, 3, 4, 5, 6, 7, 8, 0, 1] (by decide) rfl) hS (lv_sub hl [2, 3, 1, 0] rfl)
        · have hid : ¬ i ∈ D := fun z => c_18 ((hka i n_9).mpr z)
          refine lv_goto (tgt := 49) hx hb d_Md_deletes_21 (by decide) ?_
          refine lv_iinc (v := nI (i + 1)) (lv' := [(3, .int (nI (i + 1))), (0, .ref md), (1, .int 1), (2, .int (nI n))]) hx hb d_Md_deletes_49 hl (k := 3) rfl (by exact nI_add _ _) (by decide) rfl (fun ls hl => ?_)
          refine lv_goto (tgt := 4) hx hb d_Md_deletes_52 (by decide) ?_
          exact ih_4 (i + 1) n Wq _ _ _ (by omega) (by omega) (hpf.miss hid) (hWq) hP hD hS (lv_sub hl [1, 2, 3, 0] rfl)
  exact loop_4 _ 0 0 WL _ _ _ (Nat.lt_succ_self _) (Nat.zero_le _) (pfx.zero _) ((List.append_nil _).symm) hP hD hS (lv_sub hl [2, 3, 1, 0] rfl)
