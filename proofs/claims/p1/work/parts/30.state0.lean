/-! 30.state0.lean.txt -/
theorem gw_241 : (Jvm.Cond.fieldLink "PatchStore$Repository" (46 : Nat) "PatchStore$Stock" "patches" "I") ∈ xg_1 := xg_s2 1 rfl rfl
theorem gw_530 : (Jvm.Cond.fieldLink "PatchStore" (208 : Nat) "PatchStore$Repository" "digest" "[B") ∈ xg_1 := xg_s3 50 rfl rfl
theorem gw_535 : (Jvm.Cond.fieldLink "PatchStore$Repository" (38 : Nat) "PatchStore$Repository" "version" "I") ∈ xg_1 := xg_s3 55 rfl rfl
theorem gw_834 : (Jvm.Cond.instanceMethod ({ cls := "PatchStore$Sha256", name := "begin", desc := "()V" } : Jvm.MethodName)) ∈ xg_1 := xg_s4 114 rfl rfl
theorem gw_835 : (Jvm.Cond.selects "PatchStore$Sha256" ({ cls := "PatchStore$Sha256", name := "begin", desc := "()V" } : Jvm.MethodName) ({ cls := "PatchStore$Sha256", name := "begin", desc := "()V" } : Jvm.MethodName)) ∈ xg_1 := xg_s4 115 rfl rfl
theorem gw_836 : (Jvm.Cond.code ({ cls := "PatchStore$Sha256", name := "begin", desc := "()V" } : Jvm.MethodName) prog_9_method_2_code (2 : Nat) (Option.none : Option Jvm.ClassFile.FieldType)) ∈ xg_1 := xg_s4 116 rfl rfl
theorem gw_858 : (Jvm.Cond.instanceMethod ({ cls := "PatchStore$Sha256", name := "finish", desc := "([BI)V" } : Jvm.MethodName)) ∈ xg_1 := xg_s4 138 rfl rfl
theorem gw_859 : (Jvm.Cond.selects "PatchStore$Sha256" ({ cls := "PatchStore$Sha256", name := "finish", desc := "([BI)V" } : Jvm.MethodName) ({ cls := "PatchStore$Sha256", name := "finish", desc := "([BI)V" } : Jvm.MethodName)) ∈ xg_1 := xg_s4 139 rfl rfl
theorem gw_860 : (Jvm.Cond.code ({ cls := "PatchStore$Sha256", name := "finish", desc := "([BI)V" } : Jvm.MethodName) prog_9_method_4_code (6 : Nat) (Option.none : Option Jvm.ClassFile.FieldType)) ∈ xg_1 := xg_s4 140 rfl rfl
theorem gw_1276 : (Jvm.Cond.methodLink "PatchStore" (199 : Nat) ({ cls := "PatchStore", name := "checkHashIndex", desc := "(I)V" } : Jvm.MethodName)) ∈ xg_1 := xg_s6 76 rfl rfl
theorem gw_1278 : (Jvm.Cond.instanceMethod ({ cls := "PatchStore", name := "checkHashIndex", desc := "(I)V" } : Jvm.MethodName)) ∈ xg_1 := xg_s6 78 rfl rfl
theorem gw_1279 : (Jvm.Cond.code ({ cls := "PatchStore", name := "checkHashIndex", desc := "(I)V" } : Jvm.MethodName) prog_1_method_25_code (2 : Nat) (Option.none : Option Jvm.ClassFile.FieldType)) ∈ xg_1 := xg_s6 79 rfl rfl
theorem gw_1302 : (Jvm.Cond.methodLink "PatchStore" (205 : Nat) ({ cls := "PatchStore$Repository", name := "refreshDigest", desc := "(LPatchStore$Stock;LPatchStore$Sha256;)V" } : Jvm.MethodName)) ∈ xg_1 := xg_s6 102 rfl rfl
theorem gw_1303 : (Jvm.Cond.instanceMethod ({ cls := "PatchStore$Repository", name := "refreshDigest", desc := "(LPatchStore$Stock;LPatchStore$Sha256;)V" } : Jvm.MethodName)) ∈ xg_1 := xg_s6 103 rfl rfl
theorem gw_1304 : (Jvm.Cond.selects "PatchStore$Repository" ({ cls := "PatchStore$Repository", name := "refreshDigest", desc := "(LPatchStore$Stock;LPatchStore$Sha256;)V" } : Jvm.MethodName) ({ cls := "PatchStore$Repository", name := "refreshDigest", desc := "(LPatchStore$Stock;LPatchStore$Sha256;)V" } : Jvm.MethodName)) ∈ xg_1 := xg_s6 104 rfl rfl
theorem gw_1305 : (Jvm.Cond.code ({ cls := "PatchStore$Repository", name := "refreshDigest", desc := "(LPatchStore$Stock;LPatchStore$Sha256;)V" } : Jvm.MethodName) prog_8_method_8_code (5 : Nat) (Option.none : Option Jvm.ClassFile.FieldType)) ∈ xg_1 := xg_s6 105 rfl rfl
theorem gw_1306 : (Jvm.Cond.methodLink "PatchStore$Repository" (41 : Nat) ({ cls := "PatchStore$Sha256", name := "begin", desc := "()V" } : Jvm.MethodName)) ∈ xg_1 := xg_s6 106 rfl rfl
theorem gw_1308 : (Jvm.Cond.methodLink "PatchStore$Repository" (62 : Nat) ({ cls := "PatchStore$Sha256", name := "finish", desc := "([BI)V" } : Jvm.MethodName)) ∈ xg_1 := xg_s6 108 rfl rfl
def y_Re_refreshDigest : MethodName := ⟨"PatchStore$Repository", "refreshDigest", "(LPatchStore$Stock;LPatchStore$Sha256;)V"⟩
abbrev c_Re_refreshDigest : Cond := (Jvm.Cond.code ({ cls := "PatchStore$Repository", name := "refreshDigest", desc := "(LPatchStore$Stock;LPatchStore$Sha256;)V" } : Jvm.MethodName) prog_8_method_8_code (5 : Nat) (Option.none : Option Jvm.ClassFile.FieldType))
abbrev ws_Re_refreshDigest : List Cond := c_Re_refreshDigest :: xg_1
theorem d_Re_refreshDigest_0 : decode prog_8_method_8_code 0 = .ok (.aload_n 0, 1) := by decide +kernel
theorem d_Re_refreshDigest_1 : decode prog_8_method_8_code 1 = .ok (.getfield 19, 3) := by decide +kernel
theorem d_Re_refreshDigest_4 : decode prog_8_method_8_code 4 = .ok (.aload_n 0, 1) := by decide +kernel
theorem d_Re_refreshDigest_5 : decode prog_8_method_8_code 5 = .ok (.getfield 38, 3) := by decide +kernel
theorem d_Re_refreshDigest_8 : decode prog_8_method_8_code 8 = .ok (.if_icmp .ne 4, 3) := by decide +kernel
theorem d_Re_refreshDigest_11 : decode prog_8_method_8_code 11 = .ok (.return_, 1) := by decide +kernel
theorem d_Re_refreshDigest_12 : decode prog_8_method_8_code 12 = .ok (.aload_n 2, 1) := by decide +kernel
theorem d_Re_refreshDigest_13 : decode prog_8_method_8_code 13 = .ok (.invokevirtual 41, 3) := by decide +kernel
theorem d_Re_refreshDigest_16 : decode prog_8_method_8_code 16 = .ok (.iconst 0, 1) := by decide +kernel
theorem d_Re_refreshDigest_17 : decode prog_8_method_8_code 17 = .ok (.istore_n 3, 1) := by decide +kernel
theorem d_Re_refreshDigest_18 : decode prog_8_method_8_code 18 = .ok (.iload_n 3, 1) := by decide +kernel
theorem d_Re_refreshDigest_19 : decode prog_8_method_8_code 19 = .ok (.aload_n 1, 1) := by decide +kernel
theorem d_Re_refreshDigest_20 : decode prog_8_method_8_code 20 = .ok (.getfield 46, 3) := by decide +kernel
theorem d_Re_refreshDigest_23 : decode prog_8_method_8_code 23 = .ok (.if_icmp .ge 41, 3) := by decide +kernel
theorem d_Re_refreshDigest_26 : decode prog_8_method_8_code 26 = .ok (.aload_n 1, 1) := by decide +kernel
theorem d_Re_refreshDigest_27 : decode prog_8_method_8_code 27 = .ok (.getfield 51, 3) := by decide +kernel
theorem d_Re_refreshDigest_30 : decode prog_8_method_8_code 30 = .ok (.iload_n 3, 1) := by decide +kernel
theorem d_Re_refreshDigest_31 : decode prog_8_method_8_code 31 = .ok (.iaload, 1) := by decide +kernel
theorem d_Re_refreshDigest_32 : decode prog_8_method_8_code 32 = .ok (.istore 4, 2) := by decide +kernel
theorem d_Re_refreshDigest_34 : decode prog_8_method_8_code 34 = .ok (.aload_n 0, 1) := by decide +kernel
theorem d_Re_refreshDigest_35 : decode prog_8_method_8_code 35 = .ok (.iload 4, 2) := by decide +kernel
theorem d_Re_refreshDigest_37 : decode prog_8_method_8_code 37 = .ok (.invokevirtual 31, 3) := by decide +kernel
theorem d_Re_refreshDigest_40 : decode prog_8_method_8_code 40 = .ok (.ifCond .eq 18, 3) := by decide +kernel
theorem d_Re_refreshDigest_43 : decode prog_8_method_8_code 43 = .ok (.aload_n 2, 1) := by decide +kernel
theorem d_Re_refreshDigest_44 : decode prog_8_method_8_code 44 = .ok (.aload_n 1, 1) := by decide +kernel
theorem d_Re_refreshDigest_45 : decode prog_8_method_8_code 45 = .ok (.getfield 55, 3) := by decide +kernel
theorem d_Re_refreshDigest_48 : decode prog_8_method_8_code 48 = .ok (.iload 4, 2) := by decide +kernel
theorem d_Re_refreshDigest_50 : decode prog_8_method_8_code 50 = .ok (.bipush 32, 2) := by decide +kernel
theorem d_Re_refreshDigest_52 : decode prog_8_method_8_code 52 = .ok (.imul, 1) := by decide +kernel
theorem d_Re_refreshDigest_53 : decode prog_8_method_8_code 53 = .ok (.bipush 32, 2) := by decide +kernel
theorem d_Re_refreshDigest_55 : decode prog_8_method_8_code 55 = .ok (.invokevirtual 58, 3) := by decide +kernel
theorem d_Re_refreshDigest_58 : decode prog_8_method_8_code 58 = .ok (.iinc 3 1, 3) := by decide +kernel
theorem d_Re_refreshDigest_61 : decode prog_8_method_8_code 61 = .ok (.goto (-43), 3) := by decide +kernel
theorem d_Re_refreshDigest_64 : decode prog_8_method_8_code 64 = .ok (.aload_n 2, 1) := by decide +kernel
theorem d_Re_refreshDigest_65 : decode prog_8_method_8_code 65 = .ok (.aload_n 0, 1) := by decide +kernel
theorem d_Re_refreshDigest_66 : decode prog_8_method_8_code 66 = .ok (.getfield 15, 3) := by decide +kernel
theorem d_Re_refreshDigest_69 : decode prog_8_method_8_code 69 = .ok (.iconst 0, 1) := by decide +kernel
theorem d_Re_refreshDigest_70 : decode prog_8_method_8_code 70 = .ok (.invokevirtual 62, 3) := by decide +kernel
theorem d_Re_refreshDigest_73 : decode prog_8_method_8_code 73 = .ok (.aload_n 0, 1) := by decide +kernel
theorem d_Re_refreshDigest_74 : decode prog_8_method_8_code 74 = .ok (.aload_n 0, 1) := by decide +kernel
theorem d_Re_refreshDigest_75 : decode prog_8_method_8_code 75 = .ok (.getfield 38, 3) := by decide +kernel
theorem d_Re_refreshDigest_78 : decode prog_8_method_8_code 78 = .ok (.putfield 19, 3) := by decide +kernel
theorem d_Re_refreshDigest_81 : decode prog_8_method_8_code 81 = .ok (.return_, 1) := by decide +kernel
def y_PS_state : MethodName := ⟨"PatchStore", "state", "(II)I"⟩
abbrev c_PS_state : Cond := (Jvm.Cond.code ({ cls := "PatchStore", name := "state", desc := "(II)I" } : Jvm.MethodName) prog_1_method_14_code (4 : Nat) (Option.some Jvm.ClassFile.FieldType.int))
abbrev ws_PS_state : List Cond := c_PS_state :: xg_1
theorem d_PS_state_0 : decode prog_1_method_14_code 0 = .ok (.aload_n 0, 1) := by decide +kernel
theorem d_PS_state_1 : decode prog_1_method_14_code 1 = .ok (.iload_n 1, 1) := by decide +kernel
theorem d_PS_state_2 : decode prog_1_method_14_code 2 = .ok (.invokevirtual 90, 3) := by decide +kernel
theorem d_PS_state_5 : decode prog_1_method_14_code 5 = .ok (.astore_n 3, 1) := by decide +kernel
theorem d_PS_state_6 : decode prog_1_method_14_code 6 = .ok (.aload_n 0, 1) := by decide +kernel
theorem d_PS_state_7 : decode prog_1_method_14_code 7 = .ok (.iload_n 2, 1) := by decide +kernel
theorem d_PS_state_8 : decode prog_1_method_14_code 8 = .ok (.invokevirtual 199, 3) := by decide +kernel
theorem d_PS_state_11 : decode prog_1_method_14_code 11 = .ok (.aload_n 3, 1) := by decide +kernel
theorem d_PS_state_12 : decode prog_1_method_14_code 12 = .ok (.aload_n 0, 1) := by decide +kernel
theorem d_PS_state_13 : decode prog_1_method_14_code 13 = .ok (.getfield 30, 3) := by decide +kernel
theorem d_PS_state_16 : decode prog_1_method_14_code 16 = .ok (.aload_n 0, 1) := by decide +kernel
theorem d_PS_state_17 : decode prog_1_method_14_code 17 = .ok (.getfield 23, 3) := by decide +kernel
theorem d_PS_state_20 : decode prog_1_method_14_code 20 = .ok (.invokevirtual 205, 3) := by decide +kernel
theorem d_PS_state_23 : decode prog_1_method_14_code 23 = .ok (.aload_n 3, 1) := by decide +kernel
theorem d_PS_state_24 : decode prog_1_method_14_code 24 = .ok (.getfield 208, 3) := by decide +kernel
theorem d_PS_state_27 : decode prog_1_method_14_code 27 = .ok (.iload_n 2, 1) := by decide +kernel
theorem d_PS_state_28 : decode prog_1_method_14_code 28 = .ok (.baload, 1) := by decide +kernel
theorem d_PS_state_29 : decode prog_1_method_14_code 29 = .ok (.sipush 255, 3) := by decide +kernel
theorem d_PS_state_32 : decode prog_1_method_14_code 32 = .ok (.iand, 1) := by decide +kernel
theorem d_PS_state_33 : decode prog_1_method_14_code 33 = .ok (.ireturn, 1) := by decide +kernel
theorem sh_wstep_congr {b b' : Nat → Int32} (h : ∀ j, j < 64 → b j = b' j) {g : Nat → Int32} {n : Nat} : sh_wstep b g n = sh_wstep b' g n := by
  unfold sh_wstep
  by_cases e : n < 16
  · rw [if_pos e, if_pos e]; unfold sh_be; rw [h (4 * n) (by omega), h (4 * n + 1) (by omega), h (4 * n + 2) (by omega), h (4 * n + 3) (by omega)]
  · rw [if_neg e, if_neg e]
theorem sh_wf_congr {b b' : Nat → Int32} (h : ∀ j, j < 64 → b j = b' j) : ∀ n, sh_wf b n = sh_wf b' n
  | 0 => rfl
  | n + 1 => by
    show upd (sh_wf b n) n (sh_wstep b (sh_wf b n) n) = upd (sh_wf b' n) n (sh_wstep b' (sh_wf b' n) n)
    rw [sh_wf_congr h n, sh_wstep_congr h]
theorem sh_acc_at (f : Nat → Int32) (q1 q2 q3 q4 q5 q6 q7 q8 : Int32) : ∀ j, j < 8 → sh_acc f (q1, q2, q3, q4, q5, q6, q7, q8) j = f j + (match j with | 0 => q1 | 1 => q2 | 2 => q3 | 3 => q4 | 4 => q5 | 5 => q6 | 6 => q7 | _ => q8) := by
  intro j hj
  rcases (show j = 0 ∨ j = 1 ∨ j = 2 ∨ j = 3 ∨ j = 4 ∨ j = 5 ∨ j = 6 ∨ j = 7 by omega) with rfl | rfl | rfl | rfl | rfl | rfl | rfl | rfl <;> simp [sh_acc, upd]
theorem sh_comp_congr {f f' b b' : Nat → Int32} (hf : ∀ j, j < 8 → f j = f' j) (hb : ∀ j, j < 64 → b j = b' j) : ∀ j, j < 8 → sh_comp f b j = sh_comp f' b' j := by
  intro j hj
  unfold sh_comp
  rw [sh_wf_congr hb, show sh_in f = sh_in f' from by unfold sh_in; rw [hf _ (by decide), hf _ (by decide), hf _ (by decide), hf _ (by decide), hf _ (by decide), hf _ (by decide), hf _ (by decide), hf _ (by decide)]]
  obtain ⟨q1, q2, q3, q4, q5, q6, q7, q8⟩ := sh_rounds (sh_wf b' 64) 64 (sh_in f')
  rw [sh_acc_at _ _ _ _ _ _ _ _ _ j hj, sh_acc_at _ _ _ _ _ _ _ _ _ j hj, hf j hj]
def sh_zf (b : Nat → Int32) (F m : Nat) : Nat → Int32 := fun j => if F ≤ j ∧ j < F + m then 0 else b j
theorem sh_zf_s (b : Nat → Int32) (F m : Nat) : upd (sh_zf b F m) (F + m) 0 = sh_zf b F (m + 1) := by
  funext j
  by_cases e : j = F + m
  · subst e; rw [pk_us]; unfold sh_zf; rw [if_pos (by omega)]
  · rw [pk_un e]; unfold sh_zf
    by_cases h : F ≤ j ∧ j < F + m
    · rw [if_pos h, if_pos (by omega)]
    · rw [if_neg h, if_neg (by omega)]
theorem sh_zf_0 (b : Nat → Int32) (F : Nat) : sh_zf b F 0 = b := by funext j; unfold sh_zf; rw [if_neg (by omega)]
theorem sh_zeros_in (f b : Nat → Int32) (F : Nat) : ∀ m, F + m < 64 → sh_zeros m (f, b, F) = (f, sh_zf b F m, F + m)
  | 0, _ => by rw [sh_zf_0]; rfl
  | m + 1, h => by
    show sh_put1 0 (sh_zeros m (f, b, F)) = _
    rw [sh_zeros_in f b F m (by omega)]
    unfold sh_put1
    dsimp only
    rw [if_pos (by omega), sh_zf_s]; rfl
theorem sh_lenb0 : ∀ k, k < 8 → sh_lenb 0 k = 0 := by decide +kernel
theorem sh_lens_in (f b : Nat → Int32) (F : Nat) : ∀ m, m ≤ 8 → F + m < 64 → sh_lens 0 m (f, b, F) = (f, sh_zf b F m, F + m)
  | 0, _, _ => by rw [sh_zf_0]; rfl
  | m + 1, h8, h => by
    show sh_put1 (sh_lenb 0 m) (sh_lens 0 m (f, b, F)) = _
    rw [sh_lens_in f b F m (by omega) (by omega), sh_lenb0 m (by omega)]
    unfold sh_put1
    dsimp only
    rw [if_pos (by omega), sh_zf_s]; rfl
/-- the one block of the empty message -/
def st_blk : Nat → Int32 := fun j => if j = 0 then -128 else 0
/-- the digest of nothing, as eight words -/
def st_0 : Nat → Int32 := sh_comp sh_START st_blk
theorem st_fin {f b f' b' : Nat → Int32} {F' : Nat} (hf : ∀ j, j < 8 → f j = sh_START j) (h : sh_fin 0 (f, b, 0) = (f', b', F')) : ∀ j, j < 8 → f' j = st_0 j := by
  have e1 : sh_put1 (-128) (f, b, 0) = (f, upd b 0 (-128), 1) := by unfold sh_put1; dsimp only; rw [if_pos (by decide)]
  have e2 : sh_lens 0 7 (f, sh_zf (upd b 0 (-128)) 1 55, 56) = (f, sh_zf (sh_zf (upd b 0 (-128)) 1 55) 56 7, 63) := sh_lens_in _ _ 56 7 (by decide) (by decide)
  have e3 : sh_fin 0 (f, b, 0) = sh_put1 (sh_lenb 0 7) (f, sh_zf (sh_zf (upd b 0 (-128)) 1 55) 56 7, 63) := by
    unfold sh_fin
    rw [e1]
    rw [show sh_z ((f, upd b 0 (-128), 1) : sh_S).2.2 = 55 from by show sh_z 1 = 55; decide, sh_zeros_in _ _ 1 55 (by decide)]
    show sh_put1 (sh_lenb 0 7) (sh_lens 0 7 (f, sh_zf (upd b 0 (-128)) 1 55, 56)) = _
    rw [e2]
  rw [e3, sh_lenb0 7 (by decide)] at h
  unfold sh_put1 at h
  dsimp only at h
  rw [if_neg (by decide)] at h
  obtain rfl := (Prod.mk.inj h).1.symm
  unfold st_0
  refine sh_comp_congr hf (fun j hj => ?_)
  unfold st_blk
  by_cases e : j = 0
  · subst e; rw [if_pos rfl, pk_un (by decide)]; unfold sh_zf; rw [if_neg (by omega), if_neg (by omega), pk_us]
  · rw [if_neg e]
    by_cases e6 : j = 63
    · subst e6; rw [pk_us]
    · rw [pk_un e6]; unfold sh_zf
      by_cases e7 : 56 ≤ j
      · rw [if_pos (by omega)]
      · rw [if_neg (by omega), if_pos (by omega)]
theorem st_outb {f : Nat → Int32} (h : ∀ j, j < 8 → f j = st_0 j) (k : Nat) (hk : k < 32) : sh_outb f k = sh_outb st_0 k := by
  unfold sh_outb; rw [h (k / 4) (by omega)]
set_option maxHeartbeats 4000000 in
set_option maxRecDepth 100000 in
/-- refreshDigest with no patch -/
theorem m_Re_refresh0 (l : Launch) (dC : Nat → ClassId) (dI : Nat → Nat → Nat) (cI cB cL cZ cR : ClassId) (h sk sh sm wd bl dg : Nat) (rr_members rr_size sk_bytes sk_from sk_firstDependency sk_firstChange sk_dependencies sk_hashes sk_byHash sk_leansOn sk_leantBy sk_changes sk_lines fl0 tk0 : Value) (f0 w0 b0 g0 : Nat → Int32) (sz : Nat) : Met l y_Re_refreshDigest ws_Re_refreshDigest ({ frames := 4, cells := 0, slots := 0, locals := 200 }) (xw_Px dC dI [(cI, .int), (cB, .byte), (cL, .long), (cZ, .boolean), (cR, .object "PatchStore$Repository")] [.ref h, .ref sk, .ref sh] [(h, .inr (7, [rr_members, .ref dg, rr_size, .int 0, .int (-1)])), (sk, .inr (9, [sk_bytes, sk_from, sk_firstDependency, sk_firstChange, sk_dependencies, sk_hashes, sk_byHash, sk_leansOn, sk_leantBy, sk_changes, sk_lines, .int 0])), (sh, .inr (8, [.ref sm, .ref wd, .ref bl, fl0, tk0])), (sm, .inl (cI, 8, .inl f0)), (wd, .inl (cI, 64, .inl w0)), (bl, .inl (cB, 64, .inl b0)), (dg, .inl (cB, 32, .inl g0))] sz) (va_Qv (fun u : (Nat → Int32) × (Nat → Int32) × (Nat → Int32) × Nat × (Nat → Int32) => ∀ j, j < 32 → u.2.2.2.2 j = sh_outb st_0 j) (fun u t => xw_B dC dI [(cI, .int), (cB, .byte), (cL, .long), (cZ, .boolean), (cR, .object "PatchStore$Repository")] (va_A [(h, .inr (7, [rr_members, .ref dg, rr_size, .int 0, .int (-1)])), (sk, .inr (9, [sk_bytes, sk_from, sk_firstDependency, sk_firstChange, sk_dependencies, sk_hashes, sk_byHash, sk_leansOn, sk_leantBy, sk_changes, sk_lines, .int 0])), (sh, .inr (8, [.ref sm, .ref wd, .ref bl, fl0, tk0])), (sm, .inl (cI, 8, .inl f0)), (wd, .inl (cI, 64, .inl w0)), (bl, .inl (cB, 64, .inl b0)), (dg, .inl (cB, 32, .inl g0))] sz) [(h, .inr (7, [rr_members, .ref dg, rr_size, .int 0, .int 0])), (sk, .inr (9, [sk_bytes, sk_from, sk_firstDependency, sk_firstChange, sk_dependencies, sk_hashes, sk_byHash, sk_leansOn, sk_leantBy, sk_changes, sk_lines, .int 0])), (sh, .inr (8, [.ref sm, .ref wd, .ref bl, .int (nI u.2.2.2.1), .int 0])), (sm, .inl (cI, 8, .inl u.1)), (wd, .inl (cI, 64, .inl u.2.1)), (bl, .inl (cB, 64, .inl u.2.2.1)), (dg, .inl (cB, 32, .inl u.2.2.2.2))] t) (va_A [(h, .inr (7, [rr_members, .ref dg, rr_size, .int 0, .int (-1)])), (sk, .inr (9, [sk_bytes, sk_from, sk_firstDependency, sk_firstChange, sk_dependencies, sk_hashes, sk_byHash, sk_leansOn, sk_leantBy, sk_changes, sk_lines, .int 0])), (sh, .inr (8, [.ref sm, .ref wd, .ref bl, fl0, tk0])), (sm, .inl (cI, 8, .inl f0)), (wd, .inl (cI, 64, .inl w0)), (bl, .inl (cB, 64, .inl b0)), (dg, .inl (cB, 32, .inl g0))] sz)) 0 0 (va_A [(h, .inr (7, [rr_members, .ref dg, rr_size, .int 0, .int (-1)])), (sk, .inr (9, [sk_bytes, sk_from, sk_firstDependency, sk_firstChange, sk_dependencies, sk_hashes, sk_byHash, sk_leansOn, sk_leantBy, sk_changes, sk_lines, .int 0])), (sh, .inr (8, [.ref sm, .ref wd, .ref bl, fl0, tk0])), (sm, .inl (cI, 8, .inl f0)), (wd, .inl (cI, 64, .inl w0)), (bl, .inl (cB, 64, .inl b0)), (dg, .inl (cB, 32, .inl g0))] sz) := by
  refine Met.ofW (cc := prog_8_method_8_code) (maxL := 5) (ret := none) (by decide) rfl ?_
  intro p e s m args below meth c s₁ B hml hv
  obtain ⟨rfl, hsz, hP, hK, hD0, hN, hTh⟩ := hv
  have hx := B.exec
  have hb := B.bytes
  have hr := B.returns
  have hts0 := atoms_spec (ws := ws_Re_refreshDigest) B.pre
  have hts : ∀ w ∈ xg_1, w.before _ s = true := fun w h => hts0 w (List.mem_cons_of_mem _ h)
  have hown : s.vm.findClass "PatchStore$Repository" = some m.cls := findClass_of_methodNamed B.named
  have hlocks := B.notSynchronized
  subst hsz
  have hD := hD0.self (sz := s.heap.size)
  generalize hAe : va_A [(h, .inr (7, [rr_members, .ref dg, rr_size, .int 0, .int (-1)])), (sk, .inr (9, [sk_bytes, sk_from, sk_firstDependency, sk_firstChange, sk_dependencies, sk_hashes, sk_byHash, sk_leansOn, sk_leantBy, sk_changes, sk_lines, .int 0])), (sh, .inr (8, [.ref sm, .ref wd, .ref bl, fl0, tk0])), (sm, .inl (cI, 8, .inl f0)), (wd, .inl (cI, 64, .inl w0)), (bl, .inl (cB, 64, .inl b0)), (dg, .inl (cB, 32, .inl g0))] s.heap.size = A at hD hTh ⊢
  have hA : ∀ q : Nat, s.heap.size ≤ q → A q := fun q h => by rw [← hAe]; exact Or.inr h
  have hS : va_S A s.heap s.heap [] := va_S.rf
  have hl := lv_entry ([.ref h, .ref sk, .ref sh]) (n := 5) (Nat.le_of_ble_eq_true rfl)
  rw [lg_entry_eq]
  generalize (lg_sl ([.ref h, .ref sk, .ref sh]) ++ List.replicate (5 - (lg_sl ([.ref h, .ref sk, .ref sh])).length) Slot.unset).toArray = ls at hl ⊢
  have hl : lv_has ls 5 [(0, .ref h), (1, .ref sk), (2, .ref sh)] := hl
  refine lv_aload_n hx hb d_Re_refreshDigest_0 rfl (lv_at hl 0 rfl) ?_
  refine va_get (D := (dC, dI)) (ci := 7) (v := .int (-1)) (C := R_Re) (T := F_Re) (N := 5) hx hb hts i_Re hown hK hP 0 rfl rfl 4 (by decide) (hts _ gw_536) (fun _ h9 => h9) rfl d_Re_refreshDigest_1 ?_
  refine lv_aload_n hx hb d_Re_refreshDigest_4 rfl (lv_at hl 0 rfl) ?_
  refine va_get (D := (dC, dI)) (ci := 7) (v := .int 0) (C := R_Re) (T := F_Re) (N := 5) hx hb hts i_Re hown hK hP 0 rfl rfl 3 (by decide) (hts _ gw_535) (fun _ h9 => h9) rfl d_Re_refreshDigest_5 ?_
  refine lv_icmp_ne (tgt := 12) hx hb d_Re_refreshDigest_8 (by decide) (fun _ => ?_) (fun c_8 => absurd c_8 (by decide))
  refine lv_aload_n hx hb d_Re_refreshDigest_12 rfl (lv_at hl 2 rfl) ?_
  have hPc := hP.sub (ws' := [(sh, .inr (8, [.ref sm, .ref wd, .ref bl, fl0, tk0])), (sm, .inl (cI, 8, .inl f0))]) [2, 3] rfl
  have hDc := hD.sub (ws' := [(sh, .inr (8, [.ref sm, .ref wd, .ref bl, fl0, tk0])), (sm, .inl (cI, 8, .inl f0))]) [2, 3] (by decide) rfl
  have hFc := va_free (wc := [(sh, .inr (8, [.ref sm, .ref wd, .ref bl, fl0, tk0])), (sm, .inl (cI, 8, .inl f0))]) hD hS hA [2, 3] rfl
  refine va_callv (va_runV (As := []) (rest := []) ⟨hx, hb, hml, hown, hts⟩ (m_Sh_begin l dC dI cI cB cL cZ cR sh sm (.ref wd) (.ref bl) (fl0) (tk0) f0 s.heap.size ) (cwV 0 hts (xg_V gw_1306 gw_834 gw_835 gw_2 gw_836) rfl rfl rfl (by decide +kernel) ⟨Nat.le_of_ble_eq_true rfl, Nat.le_of_ble_eq_true rfl⟩) ⟨xw_blindx, va_recv hK hPc (ci := 8) (q0 := 0) rfl rfl, fun U hU hW => ⟨rfl, by rw [hU], by rw [hU]; exact hPc, va_K.moved hW.alike hK, hDc.weaken (fun _ _ _ _ => trivial), xg_N.warm hW hN, by rw [hU]; exact ((hTh.kept (fun a h1 h2 => hS.2.1 a h1 h2)).narrow hFc).moved hW.alike⟩⟩ rfl rfl hl.1 rfl (lv_room (Nat.le_of_ble_eq_true rfl)) d_Re_refreshDigest_13 ⟨Nat.le_of_ble_eq_true rfl, Nat.le_of_ble_eq_true rfl⟩) hS (fun q _ h => hFc q h) hFc (fun f1 t H1 locs ht hvm hw hB hz1 hk1 hS => ?_)
  obtain ⟨hP1, hK1, hD1⟩ := hB
  rw [ht] at hP1
  obtain ⟨hP, hD⟩ := va_join (wr := [(h, .inr (7, [rr_members, .ref dg, rr_size, .int 0, .int (-1)])), (sk, .inr (9, [sk_bytes, sk_from, sk_firstDependency, sk_firstChange, sk_dependencies, sk_hashes, sk_byHash, sk_leansOn, sk_leantBy, sk_changes, sk_lines, .int 0])), (wd, .inl (cI, 64, .inl w0)), (bl, .inl (cB, 64, .inl b0)), (dg, .inl (cB, 32, .inl g0))]) (w1 := [(sh, .inr (8, [.ref sm, .ref wd, .ref bl, .int 0, .int 0])), (sm, .inl (cI, 8, .inl f1))]) hP hD [2, 3] [0, 1, 4, 5, 6] rfl rfl (by decide) (by decide) hk1 hFc hP1 hD1
  generalize H1 = H at hP hS ⊢
  have hP : va_P (dC, dI) classes [(h, .inr (7, [rr_members, .ref dg, rr_size, .int 0, .int (-1)])), (sk, .inr (9, [sk_bytes, sk_from, sk_firstDependency, sk_firstChange, sk_dependencies, sk_hashes, sk_byHash, sk_leansOn, sk_leantBy, sk_changes, sk_lines, .int 0])), (wd, .inl (cI, 64, .inl w0)), (bl, .inl (cB, 64, .inl b0)), (dg, .inl (cB, 32, .inl g0)), (sh, .inr (8, [.ref sm, .ref wd, .ref bl, .int 0, .int 0])), (sm, .inl (cI, 8, .inl f1))] H := hP
  have hD : va_D A [(h, .inr (7, [rr_members, .ref dg, rr_size, .int 0, .int (-1)])), (sk, .inr (9, [sk_bytes, sk_from, sk_firstDependency, sk_firstChange, sk_dependencies, sk_hashes, sk_byHash, sk_leansOn, sk_leantBy, sk_changes, sk_lines, .int 0])), (wd, .inl (cI, 64, .inl w0)), (bl, .inl (cB, 64, .inl b0)), (dg, .inl (cB, 32, .inl g0)), (sh, .inr (8, [.ref sm, .ref wd, .ref bl, .int 0, .int 0])), (sm, .inl (cI, 8, .inl f1))] := hD
  have hf1 : ∀ j, j < 8 → f1 j = sh_START j := hw
  refine lv_iconst (v := 0) hx hb d_Re_refreshDigest_16 (by decide) ?_
  refine lv_istore_n (lv' := [(3, .int 0), (0, .ref h), (1, .ref sk), (2, .ref sh)]) hx hb d_Re_refreshDigest_17 rfl hl (by decide) rfl (fun ls hl => ?_)
  refine lv_iload_n hx hb d_Re_refreshDigest_18 rfl (lv_at hl 0 rfl) ?_
  refine lv_aload_n hx hb d_Re_refreshDigest_19 rfl (lv_at hl 2 rfl) ?_
  refine va_get (D := (dC, dI)) (ci := 9) (v := .int 0) (C := R_St) (T := F_St) (N := 12) hx hb hts i_St hown hK hP 1 rfl rfl 11 (by decide) (hts _ gw_241) (fun _ h9 => h9) rfl d_Re_refreshDigest_20 ?_
  refine lv_icmp_ge (tgt := 64) hx hb d_Re_refreshDigest_23 (by decide) (fun _ => ?_) (fun c_23 => absurd (by decide) c_23)
  refine lv_aload_n hx hb d_Re_refreshDigest_64 rfl (lv_at hl 3 rfl) ?_
  refine lv_aload_n hx hb d_Re_refreshDigest_65 rfl (lv_at hl 1 rfl) ?_
  refine va_get (D := (dC, dI)) (ci := 7) (v := .ref dg) (C := R_Re) (T := F_Re) (N := 5) hx hb hts i_Re hown hK hP 0 rfl rfl 1 (by decide) (hts _ gw_529) (fun _ h9 => h9) rfl d_Re_refreshDigest_66 ?_
  refine lv_iconst (v := 0) hx hb d_Re_refreshDigest_69 (by decide) ?_
  have hPc := hP.sub (ws' := [(sh, .inr (8, [.ref sm, .ref wd, .ref bl, .int 0, .int 0])), (sm, .inl (cI, 8, .inl f1)), (wd, .inl (cI, 64, .inl w0)), (bl, .inl (cB, 64, .inl b0)), (dg, .inl (cB, 32, .inl g0))]) [5, 6, 2, 3, 4] rfl
  have hDc := hD.sub (ws' := [(sh, .inr (8, [.ref sm, .ref wd, .ref bl, .int 0, .int 0])), (sm, .inl (cI, 8, .inl f1)), (wd, .inl (cI, 64, .inl w0)), (bl, .inl (cB, 64, .inl b0)), (dg, .inl (cB, 32, .inl g0))]) [5, 6, 2, 3, 4] (by decide) rfl
  have hFc := va_free (wc := [(sh, .inr (8, [.ref sm, .ref wd, .ref bl, .int 0, .int 0])), (sm, .inl (cI, 8, .inl f1)), (wd, .inl (cI, 64, .inl w0)), (bl, .inl (cB, 64, .inl b0)), (dg, .inl (cB, 32, .inl g0))]) hD hS hA [5, 6, 2, 3, 4] rfl
  refine va_callv (va_runV (As := [.ref dg, .int 0]) (rest := []) ⟨hx, hb, hml, hown, hts⟩ (m_Sh_finish l dC dI cI cB cL cZ cR sh sm wd bl dg f1 w0 b0 0 0 32 0 g0 H.size (by decide) (by decide) (by decide)) (cwV 2 hts (xg_V gw_1308 gw_858 gw_859 gw_2 gw_860) rfl rfl rfl (by decide +kernel) ⟨Nat.le_of_ble_eq_true rfl, Nat.le_of_ble_eq_true rfl⟩) ⟨xw_blindx, va_recv hK hPc (ci := 8) (q0 := 0) rfl rfl, fun U hU hW => ⟨rfl, by rw [hU], by rw [hU]; exact hPc, va_K.moved hW.alike hK, hDc.weaken (fun _ _ _ _ => trivial), xg_N.warm hW hN, by rw [hU]; exact ((hTh.kept (fun a h1 h2 => hS.2.1 a h1 h2)).narrow hFc).moved hW.alike⟩⟩ rfl rfl hl.1 rfl (lv_room (Nat.le_of_ble_eq_true rfl)) d_Re_refreshDigest_70 ⟨Nat.le_of_ble_eq_true rfl, Nat.le_of_ble_eq_true rfl⟩) hS (fun q _ h => hFc q h) hFc (fun u t H1 locs ht hvm hw hB hz1 hk1 hS => ?_)
  obtain ⟨f2, w2, b2, F2, g2⟩ := u
  obtain ⟨hw1, hw2, hw3⟩ := hw
  dsimp only at hw1 hw2 hw3
  obtain ⟨hP1, hK1, hD1⟩ := hB
  rw [ht] at hP1
  obtain ⟨hP, hD⟩ := va_join (wr := [(h, .inr (7, [rr_members, .ref dg, rr_size, .int 0, .int (-1)])), (sk, .inr (9, [sk_bytes, sk_from, sk_firstDependency, sk_firstChange, sk_dependencies, sk_hashes, sk_byHash, sk_leansOn, sk_leantBy, sk_changes, sk_lines, .int 0]))]) (w1 := [(sh, .inr (8, [.ref sm, .ref wd, .ref bl, .int (nI F2), .int 0])), (sm, .inl (cI, 8, .inl f2)), (wd, .inl (cI, 64, .inl w2)), (bl, .inl (cB, 64, .inl b2)), (dg, .inl (cB, 32, .inl g2))]) hP hD [5, 6, 2, 3, 4] [0, 1] rfl rfl (by decide) (by decide) hk1 hFc hP1 hD1
  generalize H1 = H at hP hS ⊢
  have hP : va_P (dC, dI) classes [(h, .inr (7, [rr_members, .ref dg, rr_size, .int 0, .int (-1)])), (sk, .inr (9, [sk_bytes, sk_from, sk_firstDependency, sk_firstChange, sk_dependencies, sk_hashes, sk_byHash, sk_leansOn, sk_leantBy, sk_changes, sk_lines, .int 0])), (sh, .inr (8, [.ref sm, .ref wd, .ref bl, .int (nI F2), .int 0])), (sm, .inl (cI, 8, .inl f2)), (wd, .inl (cI, 64, .inl w2)), (bl, .inl (cB, 64, .inl b2)), (dg, .inl (cB, 32, .inl g2))] H := hP
  have hD : va_D A [(h, .inr (7, [rr_members, .ref dg, rr_size, .int 0, .int (-1)])), (sk, .inr (9, [sk_bytes, sk_from, sk_firstDependency, sk_firstChange, sk_dependencies, sk_hashes, sk_byHash, sk_leansOn, sk_leantBy, sk_changes, sk_lines, .int 0])), (sh, .inr (8, [.ref sm, .ref wd, .ref bl, .int (nI F2), .int 0])), (sm, .inl (cI, 8, .inl f2)), (wd, .inl (cI, 64, .inl w2)), (bl, .inl (cB, 64, .inl b2)), (dg, .inl (cB, 32, .inl g2))] := hD
  refine lv_aload_n hx hb d_Re_refreshDigest_73 rfl (lv_at hl 1 rfl) ?_
  refine lv_aload_n hx hb d_Re_refreshDigest_74 rfl (lv_at hl 1 rfl) ?_
  refine va_get (D := (dC, dI)) (ci := 7) (v := .int 0) (C := R_Re) (T := F_Re) (N := 5) hx hb hts i_Re hown hK hP 0 rfl rfl 3 (by decide) (hts _ gw_535) (fun _ h9 => h9) rfl d_Re_refreshDigest_75 ?_
  refine va_put (D := (dC, dI)) (ci := 7) (v := .int 0) (ty := .int) (C := R_Re) (T := F_Re) (N := 5) hx hb hts i_Re t_Re t_Re_ok n_Re hown hK hP hD hS 0 rfl rfl 4 (by decide) (hts _ gw_536) (fun _ h9 => h9) rfl (by decide +kernel) rfl rfl (Nat.le_of_ble_eq_true rfl) d_Re_refreshDigest_78 (fun H locs hP hD hS => ?_)
  have hP : va_P (dC, dI) classes [(h, .inr (7, [rr_members, .ref dg, rr_size, .int 0, .int 0])), (sk, .inr (9, [sk_bytes, sk_from, sk_firstDependency, sk_firstChange, sk_dependencies, sk_hashes, sk_byHash, sk_leansOn, sk_leantBy, sk_changes, sk_lines, .int 0])), (sh, .inr (8, [.ref sm, .ref wd, .ref bl, .int (nI F2), .int 0])), (sm, .inl (cI, 8, .inl f2)), (wd, .inl (cI, 64, .inl w2)), (bl, .inl (cB, 64, .inl b2)), (dg, .inl (cB, 32, .inl g2))] H := hP
  have hD : va_D A [(h, .inr (7, [rr_members, .ref dg, rr_size, .int 0, .int 0])), (sk, .inr (9, [sk_bytes, sk_from, sk_firstDependency, sk_firstChange, sk_dependencies, sk_hashes, sk_byHash, sk_leansOn, sk_leantBy, sk_changes, sk_lines, .int 0])), (sh, .inr (8, [.ref sm, .ref wd, .ref bl, .int (nI F2), .int 0])), (sm, .inl (cI, 8, .inl f2)), (wd, .inl (cI, 64, .inl w2)), (bl, .inl (cB, 64, .inl b2)), (dg, .inl (cB, 32, .inl g2))] := hD
  exact W.vret hx hb hr (fun t ht hW => ⟨⟨(f2, w2, b2, F2, g2), rfl, (fun j hj => by show g2 j = _; rw [hw3]; unfold sh_out; rw [if_pos (by omega), Nat.sub_zero]; exact st_outb (st_fin hf1 hw1) j hj), by rw [ht]; exact hP, va_K.moved hW.alike hK, hD⟩, hS.F ht⟩) hS.2.2 d_Re_refreshDigest_81
set_option maxHeartbeats 4000000 in
set_option maxRecDepth 100000 in
/-- state on a fresh object -/
theorem m_PS_state0 (l : Launch) (dC : Nat → ClassId) (dI : Nat → Nat → Nat) (cI cB cL cZ cR : ClassId) (hlt : xl_T l) (h rp rr sk sh sm wd bl dg : Nat) (ps_tape ps_intake ps_view ps_text ps_maker ps_recording ps_tapeLength ps_lastFault rr_members rr_size sk_bytes sk_from sk_firstDependency sk_firstChange sk_dependencies sk_hashes sk_byHash sk_leansOn sk_leantBy sk_changes sk_lines fl0 tk0 : Value) (f0 w0 b0 g0 : Nat → Int32) (g : Nat → Nat) (rf : Nat → Option Nat) (p0 p1 : Int32) (sz : Nat) (hrf : ∀ k, k < 8 → rf k = some (g k)) (hrr_rr : ∀ n, n < 8 → p0 = nI n → g n = rr) : xc_Met l y_PS_state ws_PS_state ({ frames := 14, cells := 2, slots := 12, locals := 400 }) (xw_Px dC dI [(cI, .int), (cB, .byte), (cL, .long), (cZ, .boolean), (cR, .object "PatchStore$Repository")] [.ref h, .int p0, .int p1] [(h, .inr (0, [ps_tape, .ref rp, .ref sh, .ref sk, ps_intake, ps_view, ps_text, ps_maker, ps_recording, ps_tapeLength, ps_lastFault])), (rp, .inl (cR, 8, .inr (.inr (.inr (.inr rf))))), (rr, .inr (7, [rr_members, .ref dg, rr_size, .int 0, .int (-1)])), (sk, .inr (9, [sk_bytes, sk_from, sk_firstDependency, sk_firstChange, sk_dependencies, sk_hashes, sk_byHash, sk_leansOn, sk_leantBy, sk_changes, sk_lines, .int 0])), (sh, .inr (8, [.ref sm, .ref wd, .ref bl, fl0, tk0])), (sm, .inl (cI, 8, .inl f0)), (wd, .inl (cI, 64, .inl w0)), (bl, .inl (cB, 64, .inl b0)), (dg, .inl (cB, 32, .inl g0))] sz) (xc_Q (S := Unit) (fun v (_ : Unit) => (∃ n : Nat, n < 8 ∧ p0 = nI n) ∧ ∃ n : Nat, n < 32 ∧ p1 = nI n ∧ v = some (.int (sh_outb st_0 n &&& 255))) (fun C (_ : Unit) => ((¬ ∃ n : Nat, n < 8 ∧ p0 = nI n) ∧ C = "java/util/NoSuchElementException") ∨ ((∃ n : Nat, n < 8 ∧ p0 = nI n) ∧ (¬ ∃ n : Nat, n < 32 ∧ p1 = nI n) ∧ C = "java/lang/IndexOutOfBoundsException")) (fun _ _ => True) (va_A [(h, .inr (0, [ps_tape, .ref rp, .ref sh, .ref sk, ps_intake, ps_view, ps_text, ps_maker, ps_recording, ps_tapeLength, ps_lastFault])), (rp, .inl (cR, 8, .inr (.inr (.inr (.inr rf))))), (rr, .inr (7, [rr_members, .ref dg, rr_size, .int 0, .int (-1)])), (sk, .inr (9, [sk_bytes, sk_from, sk_firstDependency, sk_firstChange, sk_dependencies, sk_hashes, sk_byHash, sk_leansOn, sk_leantBy, sk_changes, sk_lines, .int 0])), (sh, .inr (8, [.ref sm, .ref wd, .ref bl, fl0, tk0])), (sm, .inl (cI, 8, .inl f0)), (wd, .inl (cI, 64, .inl w0)), (bl, .inl (cB, 64, .inl b0)), (dg, .inl (cB, 32, .inl g0))] sz)) 2 12 (va_A [(h, .inr (0, [ps_tape, .ref rp, .ref sh, .ref sk, ps_intake, ps_view, ps_text, ps_maker, ps_recording, ps_tapeLength, ps_lastFault])), (rp, .inl (cR, 8, .inr (.inr (.inr (.inr rf))))), (rr, .inr (7, [rr_members, .ref dg, rr_size, .int 0, .int (-1)])), (sk, .inr (9, [sk_bytes, sk_from, sk_firstDependency, sk_firstChange, sk_dependencies, sk_hashes, sk_byHash, sk_leansOn, sk_leantBy, sk_changes, sk_lines, .int 0])), (sh, .inr (8, [.ref sm, .ref wd, .ref bl, fl0, tk0])), (sm, .inl (cI, 8, .inl f0)), (wd, .inl (cI, 64, .inl w0)), (bl, .inl (cB, 64, .inl b0)), (dg, .inl (cB, 32, .inl g0))] sz) := by
  refine xc_ofW (cc := prog_1_method_14_code) (maxL := 4) (ret := (Option.some Jvm.ClassFile.FieldType.int)) (by decide) rfl ?_
  intro p e s m args below meth c s₁ B hml hno hv
  obtain ⟨rfl, hsz, hP, hK, hD0, hN, hTh⟩ := hv
  have htr : e.platform.stackTraces = false := hlt e B.admits
  have hx := B.exec
  have hb := B.bytes
  have hr := B.returns
  have hts0 := atoms_spec (ws := ws_PS_state) B.pre
  have hts : ∀ w ∈ xg_1, w.before _ s = true := fun w h => hts0 w (List.mem_cons_of_mem _ h)
  have hown : s.vm.findClass "PatchStore" = some m.cls := findClass_of_methodNamed B.named
  have hlocks := B.notSynchronized
  subst hsz
  have hD := hD0.self (sz := s.heap.size)
  generalize hAe : va_A [(h, .inr (0, [ps_tape, .ref rp, .ref sh, .ref sk, ps_intake, ps_view, ps_text, ps_maker, ps_recording, ps_tapeLength, ps_lastFault])), (rp, .inl (cR, 8, .inr (.inr (.inr (.inr rf))))), (rr, .inr (7, [rr_members, .ref dg, rr_size, .int 0, .int (-1)])), (sk, .inr (9, [sk_bytes, sk_from, sk_firstDependency, sk_firstChange, sk_dependencies, sk_hashes, sk_byHash, sk_leansOn, sk_leantBy, sk_changes, sk_lines, .int 0])), (sh, .inr (8, [.ref sm, .ref wd, .ref bl, fl0, tk0])), (sm, .inl (cI, 8, .inl f0)), (wd, .inl (cI, 64, .inl w0)), (bl, .inl (cB, 64, .inl b0)), (dg, .inl (cB, 32, .inl g0))] s.heap.size = A at hD hTh ⊢
  have hA : ∀ q : Nat, s.heap.size ≤ q → A q := fun q h => by rw [← hAe]; exact Or.inr h
  have hS : va_S A s.heap s.heap [] := va_S.rf
  have hl := lv_entry ([.ref h, .int p0, .int p1]) (n := 4) (Nat.le_of_ble_eq_true rfl)
  rw [lg_entry_eq]
  generalize (lg_sl ([.ref h, .int p0, .int p1]) ++ List.replicate (4 - (lg_sl ([.ref h, .int p0, .int p1])).length) Slot.unset).toArray = ls at hl ⊢
  have hl : lv_has ls 4 [(0, .ref h), (1, .int p0), (2, .int p1)] := hl
  refine lv_aload_n hx hb d_PS_state_0 rfl (lv_at hl 0 rfl) ?_
  refine lv_iload_n hx hb d_PS_state_1 rfl (lv_at hl 1 rfl) ?_
  have hPc := hP.sub (ws' := [(h, .inr (0, [ps_tape, .ref rp, .ref sh, .ref sk, ps_intake, ps_view, ps_text, ps_maker, ps_recording, ps_tapeLength, ps_lastFault])), (rp, .inl (cR, 8, .inr (.inr (.inr (.inr rf)))))]) [0, 1] rfl
  have hDc := hD.sub (ws' := [(h, .inr (0, [ps_tape, .ref rp, .ref sh, .ref sk, ps_intake, ps_view, ps_text, ps_maker, ps_recording, ps_tapeLength, ps_lastFault])), (rp, .inl (cR, 8, .inr (.inr (.inr (.inr rf)))))]) [0, 1] (by decide) rfl
  have hFc := va_free (wc := [(h, .inr (0, [ps_tape, .ref rp, .ref sh, .ref sk, ps_intake, ps_view, ps_text, ps_maker, ps_recording, ps_tapeLength, ps_lastFault])), (rp, .inl (cR, 8, .inr (.inr (.inr (.inr rf)))))]) hD hS hA [0, 1] rfl
  refine xc_call (xc_runV (As := [.int p0]) (rest := []) (C := "PatchStore") ⟨hx, hb, hml, hown, hts⟩ (m_PS_repositoryAt l dC dI cI cB cL cZ cR hlt h rp (ps_tape) (.ref sh) (.ref sk) (ps_intake) (ps_view) (ps_text) (ps_maker) (ps_recording) (ps_tapeLength) (ps_lastFault) g rf p0 s.heap.size hrf) (xc_bOf 1 hts (xg_in gw_703) (xc_Is.code (hts _ gw_703)) rfl rfl (hts _ gw_1) (by decide +kernel) ⟨Nat.le_of_ble_eq_true rfl, Nat.le_of_ble_eq_true rfl⟩) (hts _ gw_700) (hts _ gw_702) (hts _ (xg_p 2 (q := (⟨"PatchStore", "repositoryAt", "(I)LPatchStore$Repository;"⟩, 11)) (by decide +kernel))) ⟨xw_blindx, va_recv hK hPc (ci := 0) (q0 := 0) rfl rfl, fun U hU hW => ⟨rfl, by rw [hU], by rw [hU]; exact hPc, va_K.moved hW.alike hK, hDc.weaken (fun _ _ _ _ => trivial), xg_N.warm hW hN, by rw [hU]; exact ((hTh.kept (fun a h1 h2 => hS.2.1 a h1 h2)).narrow hFc).moved hW.alike⟩⟩ rfl rfl hl.1 rfl (lv_room (Nat.le_of_ble_eq_true rfl)) d_PS_state_2 ⟨Nat.le_of_ble_eq_true rfl, Nat.le_of_ble_eq_true rfl⟩) hS (fun q _ h => hFc q h) hFc (fun v9 u t H1 locs ht hvm hw hB hz1 hk1 hS => ?_) (fun x9 C9 u t H1 locs ht hvm hw hex hB hz1 hk1 hS => ?_)
  · obtain ⟨n0, hn0, en0, rfl⟩ := hw
    rw [hrr_rr n0 hn0 en0]
    obtain ⟨hP1, hK1, hD1⟩ := hB
    rw [ht] at hP1
    obtain ⟨hP, hD⟩ := va_join (wr := [(rr, .inr (7, [rr_members, .ref dg, rr_size, .int 0, .int (-1)])), (sk, .inr (9, [sk_bytes, sk_from, sk_firstDependency, sk_firstChange, sk_dependencies, sk_hashes, sk_byHash, sk_leansOn, sk_leantBy, sk_changes, sk_lines, .int 0])), (sh, .inr (8, [.ref sm, .ref wd, .ref bl, fl0, tk0])), (sm, .inl (cI, 8, .inl f0)), (wd, .inl (cI, 64, .inl w0)), (bl, .inl (cB, 64, .inl b0)), (dg, .inl (cB, 32, .inl g0))]) (w1 := [(h, .inr (0, [ps_tape, .ref rp, .ref sh, .ref sk, ps_intake, ps_view, ps_text, ps_maker, ps_recording, ps_tapeLength, ps_lastFault])), (rp, .inl (cR, 8, .inr (.inr (.inr (.inr rf)))))]) hP hD [0, 1] [2, 3, 4, 5, 6, 7, 8] rfl rfl (by decide) (by decide) hk1 hFc hP1 hD1
    generalize H1 = H at hP hS ht ⊢
    have hP : va_P (dC, dI) classes [(rr, .inr (7, [rr_members, .ref dg, rr_size, .int 0, .int (-1)])), (sk, .inr (9, [sk_bytes, sk_from, sk_firstDependency, sk_firstChange, sk_dependencies, sk_hashes, sk_byHash, sk_leansOn, sk_leantBy, sk_changes, sk_lines, .int 0])), (sh, .inr (8, [.ref sm, .ref wd, .ref bl, fl0, tk0])), (sm, .inl (cI, 8, .inl f0)), (wd, .inl (cI, 64, .inl w0)), (bl, .inl (cB, 64, .inl b0)), (dg, .inl (cB, 32, .inl g0)), (h, .inr (0, [ps_tape, .ref rp, .ref sh, .ref sk, ps_intake, ps_view, ps_text, ps_maker, ps_recording, ps_tapeLength, ps_lastFault])), (rp, .inl (cR, 8, .inr (.inr (.inr (.inr rf)))))] H := hP
    have hD : va_D A [(rr, .inr (7, [rr_members, .ref dg, rr_size, .int 0, .int (-1)])), (sk, .inr (9, [sk_bytes, sk_from, sk_firstDependency, sk_firstChange, sk_dependencies, sk_hashes, sk_byHash, sk_leansOn, sk_leantBy, sk_changes, sk_lines, .int 0])), (sh, .inr (8, [.ref sm, .ref wd, .ref bl, fl0, tk0])), (sm, .inl (cI, 8, .inl f0)), (wd, .inl (cI, 64, .inl w0)), (bl, .inl (cB, 64, .inl b0)), (dg, .inl (cB, 32, .inl g0)), (h, .inr (0, [ps_tape, .ref rp, .ref sh, .ref sk, ps_intake, ps_view, ps_text, ps_maker, ps_recording, ps_tapeLength, ps_lastFault])), (rp, .inl (cR, 8, .inr (.inr (.inr (.inr rf)))))] := hD
    refine W.eq (g2 := F0 m 5 ls [.ref rr]) rfl ?_
    refine W.widen (k := 1) (n := 6) (Nat.le_of_ble_eq_true rfl) (Nat.le_of_ble_eq_true rfl) ?_
    refine lv_astore_n (lv' := [(3, .ref rr), (0, .ref h), (1, .int p0), (2, .int p1)]) hx hb d_PS_state_5 rfl hl (by decide) rfl (fun ls hl => ?_)
    refine lv_aload_n hx hb d_PS_state_6 rfl (lv_at hl 1 rfl) ?_
    refine lv_iload_n hx hb d_PS_state_7 rfl (lv_at hl 3 rfl) ?_
    have hPc := hP.sub (ws' := [(h, .inr (0, [ps_tape, .ref rp, .ref sh, .ref sk, ps_intake, ps_view, ps_text, ps_maker, ps_recording, ps_tapeLength, ps_lastFault]))]) [7] rfl
    have hDc := hD.sub (ws' := [(h, .inr (0, [ps_tape, .ref rp, .ref sh, .ref sk, ps_intake, ps_view, ps_text, ps_maker, ps_recording, ps_tapeLength, ps_lastFault]))]) [7] (by decide) rfl
    have hFc := va_free (wc := [(h, .inr (0, [ps_tape, .ref rp, .ref sh, .ref sk, ps_intake, ps_view, ps_text, ps_maker, ps_recording, ps_tapeLength, ps_lastFault]))]) hD hS hA [7] rfl
    refine xc_call (xc_runV (As := [.int p1]) (rest := []) (C := "PatchStore") ⟨hx, hb, hml, hown, hts⟩ (m_PS_checkHashIndex l dC dI cI cB cL cZ cR hlt h (ps_tape) (.ref rp) (.ref sh) (.ref sk) (ps_intake) (ps_view) (ps_text) (ps_maker) (ps_recording) (ps_tapeLength) (ps_lastFault) p1 H.size ) (xc_bOf 1 hts (xg_in gw_1279) (xc_Is.code (hts _ gw_1279)) rfl rfl (hts _ gw_1) (by decide +kernel) ⟨Nat.le_of_ble_eq_true rfl, Nat.le_of_ble_eq_true rfl⟩) (hts _ gw_1276) (hts _ gw_1278) (hts _ (xg_p 65 (q := (⟨"PatchStore", "checkHashIndex", "(I)V"⟩, 11)) (by decide +kernel))) ⟨xw_blindx, va_recv hK hPc (ci := 0) (q0 := 0) rfl rfl, fun U hU hW => ⟨rfl, by rw [hU], by rw [hU]; exact hPc, va_K.moved hW.alike hK, hDc.weaken (fun _ _ _ _ => trivial), xg_N.warm hW hN, by rw [hU]; exact ((hTh.kept (fun a h1 h2 => hS.2.1 a h1 h2)).narrow hFc).moved hW.alike⟩⟩ rfl rfl hl.1 rfl (lv_room (Nat.le_of_ble_eq_true rfl)) d_PS_state_8 ⟨Nat.le_of_ble_eq_true rfl, Nat.le_of_ble_eq_true rfl⟩) hS (fun q _ h => hFc q h) hFc (fun v9 u t H1 locs ht hvm hw hB hz1 hk1 hS => ?_) (fun x9 C9 u t H1 locs ht hvm hw hex hB hz1 hk1 hS => ?_)
    · obtain ⟨⟨n1, hn1, en1⟩, rfl⟩ := hw
      subst en1
      obtain ⟨hP1, hK1, hD1⟩ := hB
      rw [ht] at hP1
      obtain ⟨hP, hD⟩ := va_join (wr := [(rr, .inr (7, [rr_members, .ref dg, rr_size, .int 0, .int (-1)])), (sk, .inr (9, [sk_bytes, sk_from, sk_firstDependency, sk_firstChange, sk_dependencies, sk_hashes, sk_byHash, sk_leansOn, sk_leantBy, sk_changes, sk_lines, .int 0])), (sh, .inr (8, [.ref sm, .ref wd, .ref bl, fl0, tk0])), (sm, .inl (cI, 8, .inl f0)), (wd, .inl (cI, 64, .inl w0)), (bl, .inl (cB, 64, .inl b0)), (dg, .inl (cB, 32, .inl g0)), (rp, .inl (cR, 8, .inr (.inr (.inr (.inr rf)))))]) (w1 := [(h, .inr (0, [ps_tape, .ref rp, .ref sh, .ref sk, ps_intake, ps_view, ps_text, ps_maker, ps_recording, ps_tapeLength, ps_lastFault]))]) hP hD [7] [0, 1, 2, 3, 4, 5, 6, 8] rfl rfl (by decide) (by decide) hk1 hFc hP1 hD1
      generalize H1 = H at hP hS ht ⊢
      have hP : va_P (dC, dI) classes [(rr, .inr (7, [rr_members, .ref dg, rr_size, .int 0, .int (-1)])), (sk, .inr (9, [sk_bytes, sk_from, sk_firstDependency, sk_firstChange, sk_dependencies, sk_hashes, sk_byHash, sk_leansOn, sk_leantBy, sk_changes, sk_lines, .int 0])), (sh, .inr (8, [.ref sm, .ref wd, .ref bl, fl0, tk0])), (sm, .inl (cI, 8, .inl f0)), (wd, .inl (cI, 64, .inl w0)), (bl, .inl (cB, 64, .inl b0)), (dg, .inl (cB, 32, .inl g0)), (rp, .inl (cR, 8, .inr (.inr (.inr (.inr rf))))), (h, .inr (0, [ps_tape, .ref rp, .ref sh, .ref sk, ps_intake, ps_view, ps_text, ps_maker, ps_recording, ps_tapeLength, ps_lastFault]))] H := hP
      have hD : va_D A [(rr, .inr (7, [rr_members, .ref dg, rr_size, .int 0, .int (-1)])), (sk, .inr (9, [sk_bytes, sk_from, sk_firstDependency, sk_firstChange, sk_dependencies, sk_hashes, sk_byHash, sk_leansOn, sk_leantBy, sk_changes, sk_lines, .int 0])), (sh, .inr (8, [.ref sm, .ref wd, .ref bl, fl0, tk0])), (sm, .inl (cI, 8, .inl f0)), (wd, .inl (cI, 64, .inl w0)), (bl, .inl (cB, 64, .inl b0)), (dg, .inl (cB, 32, .inl g0)), (rp, .inl (cR, 8, .inr (.inr (.inr (.inr rf))))), (h, .inr (0, [ps_tape, .ref rp, .ref sh, .ref sk, ps_intake, ps_view, ps_text, ps_maker, ps_recording, ps_tapeLength, ps_lastFault]))] := hD
      refine W.eq (g2 := F0 m 11 ls []) rfl ?_
      refine W.widen (k := 2) (n := 12) (Nat.le_of_ble_eq_true rfl) (Nat.le_of_ble_eq_true rfl) ?_
      refine lv_aload_n hx hb d_PS_state_11 rfl (lv_at hl 0 rfl) ?_
      refine lv_aload_n hx hb d_PS_state_12 rfl (lv_at hl 1 rfl) ?_
      refine va_get (D := (dC, dI)) (ci := 0) (v := .ref sk) (C := R_PS) (T := F_PS) (N := 11) hx hb hts i_PS hown hK hP 8 rfl rfl 3 (by decide) (hts _ gw_551) (fun _ h9 => h9) rfl d_PS_state_13 ?_
      refine lv_aload_n hx hb d_PS_state_16 rfl (lv_at hl 1 rfl) ?_
      refine va_get (D := (dC, dI)) (ci := 0) (v := .ref sh) (C := R_PS) (T := F_PS) (N := 11) hx hb hts i_PS hown hK hP 8 rfl rfl 2 (by decide) (hts _ gw_550) (fun _ h9 => h9) rfl d_PS_state_17 ?_
      have hPc := hP.sub (ws' := [(rr, .inr (7, [rr_members, .ref dg, rr_size, .int 0, .int (-1)])), (sk, .inr (9, [sk_bytes, sk_from, sk_firstDependency, sk_firstChange, sk_dependencies, sk_hashes, sk_byHash, sk_leansOn, sk_leantBy, sk_changes, sk_lines, .int 0])), (sh, .inr (8, [.ref sm, .ref wd, .ref bl, fl0, tk0])), (sm, .inl (cI, 8, .inl f0)), (wd, .inl (cI, 64, .inl w0)), (bl, .inl (cB, 64, .inl b0)), (dg, .inl (cB, 32, .inl g0))]) [0, 1, 2, 3, 4, 5, 6] rfl
      have hDc := hD.sub (ws' := [(rr, .inr (7, [rr_members, .ref dg, rr_size, .int 0, .int (-1)])), (sk, .inr (9, [sk_bytes, sk_from, sk_firstDependency, sk_firstChange, sk_dependencies, sk_hashes, sk_byHash, sk_leansOn, sk_leantBy, sk_changes, sk_lines, .int 0])), (sh, .inr (8, [.ref sm, .ref wd, .ref bl, fl0, tk0])), (sm, .inl (cI, 8, .inl f0)), (wd, .inl (cI, 64, .inl w0)), (bl, .inl (cB, 64, .inl b0)), (dg, .inl (cB, 32, .inl g0))]) [0, 1, 2, 3, 4, 5, 6] (by decide) rfl
      have hFc := va_free (wc := [(rr, .inr (7, [rr_members, .ref dg, rr_size, .int 0, .int (-1)])), (sk, .inr (9, [sk_bytes, sk_from, sk_firstDependency, sk_firstChange, sk_dependencies, sk_hashes, sk_byHash, sk_leansOn, sk_leantBy, sk_changes, sk_lines, .int 0])), (sh, .inr (8, [.ref sm, .ref wd, .ref bl, fl0, tk0])), (sm, .inl (cI, 8, .inl f0)), (wd, .inl (cI, 64, .inl w0)), (bl, .inl (cB, 64, .inl b0)), (dg, .inl (cB, 32, .inl g0))]) hD hS hA [0, 1, 2, 3, 4, 5, 6] rfl
      refine va_callv (va_runV (As := [.ref sk, .ref sh]) (rest := []) ⟨hx, hb, hml, hown, hts⟩ (m_Re_refresh0 l dC dI cI cB cL cZ cR rr sk sh sm wd bl dg (rr_members) (rr_size) (sk_bytes) (sk_from) (sk_firstDependency) (sk_firstChange) (sk_dependencies) (sk_hashes) (sk_byHash) (sk_leansOn) (sk_leantBy) (sk_changes) (sk_lines) fl0 tk0 f0 w0 b0 g0 H.size ) (cwV 2 hts (xg_V gw_1302 gw_1303 gw_1304 gw_12 gw_1305) rfl rfl rfl (by decide +kernel) ⟨Nat.le_of_ble_eq_true rfl, Nat.le_of_ble_eq_true rfl⟩) ⟨xw_blindx, va_recv hK hPc (ci := 7) (q0 := 0) rfl rfl, fun U hU hW => ⟨rfl, by rw [hU], by rw [hU]; exact hPc, va_K.moved hW.alike hK, hDc.weaken (fun _ _ _ _ => trivial), xg_N.warm hW hN, by rw [hU]; exact ((hTh.kept (fun a h1 h2 => hS.2.1 a h1 h2)).narrow hFc).moved hW.alike⟩⟩ rfl rfl hl.1 rfl (lv_room (Nat.le_of_ble_eq_true rfl)) d_PS_state_20 ⟨Nat.le_of_ble_eq_true rfl, Nat.le_of_ble_eq_true rfl⟩) hS (fun q _ h => hFc q h) hFc (fun u t H1 locs ht hvm hw hB hz1 hk1 hS => ?_)
      obtain ⟨hP1, hK1, hD1⟩ := hB
      rw [ht] at hP1
      obtain ⟨hP, hD⟩ := va_join (wr := [(rp, .inl (cR, 8, .inr (.inr (.inr (.inr rf))))), (h, .inr (0, [ps_tape, .ref rp, .ref sh, .ref sk, ps_intake, ps_view, ps_text, ps_maker, ps_recording, ps_tapeLength, ps_lastFault]))]) (w1 := [(rr, .inr (7, [rr_members, .ref dg, rr_size, .int 0, .int 0])), (sk, .inr (9, [sk_bytes, sk_from, sk_firstDependency, sk_firstChange, sk_dependencies, sk_hashes, sk_byHash, sk_leansOn, sk_leantBy, sk_changes, sk_lines, .int 0])), (sh, .inr (8, [.ref sm, .ref wd, .ref bl, .int (nI u.2.2.2.1), .int 0])), (sm, .inl (cI, 8, .inl u.1)), (wd, .inl (cI, 64, .inl u.2.1)), (bl, .inl (cB, 64, .inl u.2.2.1)), (dg, .inl (cB, 32, .inl u.2.2.2.2))]) hP hD [0, 1, 2, 3, 4, 5, 6] [7, 8] rfl rfl (by decide) (by decide) hk1 hFc hP1 hD1
      generalize H1 = H at hP hS ⊢
      have hP : va_P (dC, dI) classes [(rp, .inl (cR, 8, .inr (.inr (.inr (.inr rf))))), (h, .inr (0, [ps_tape, .ref rp, .ref sh, .ref sk, ps_intake, ps_view, ps_text, ps_maker, ps_recording, ps_tapeLength, ps_lastFault])), (rr, .inr (7, [rr_members, .ref dg, rr_size, .int 0, .int 0])), (sk, .inr (9, [sk_bytes, sk_from, sk_firstDependency, sk_firstChange, sk_dependencies, sk_hashes, sk_byHash, sk_leansOn, sk_leantBy, sk_changes, sk_lines, .int 0])), (sh, .inr (8, [.ref sm, .ref wd, .ref bl, .int (nI u.2.2.2.1), .int 0])), (sm, .inl (cI, 8, .inl u.1)), (wd, .inl (cI, 64, .inl u.2.1)), (bl, .inl (cB, 64, .inl u.2.2.1)), (dg, .inl (cB, 32, .inl u.2.2.2.2))] H := hP
      have hD : va_D A [(rp, .inl (cR, 8, .inr (.inr (.inr (.inr rf))))), (h, .inr (0, [ps_tape, .ref rp, .ref sh, .ref sk, ps_intake, ps_view, ps_text, ps_maker, ps_recording, ps_tapeLength, ps_lastFault])), (rr, .inr (7, [rr_members, .ref dg, rr_size, .int 0, .int 0])), (sk, .inr (9, [sk_bytes, sk_from, sk_firstDependency, sk_firstChange, sk_dependencies, sk_hashes, sk_byHash, sk_leansOn, sk_leantBy, sk_changes, sk_lines, .int 0])), (sh, .inr (8, [.ref sm, .ref wd, .ref bl, .int (nI u.2.2.2.1), .int 0])), (sm, .inl (cI, 8, .inl u.1)), (wd, .inl (cI, 64, .inl u.2.1)), (bl, .inl (cB, 64, .inl u.2.2.1)), (dg, .inl (cB, 32, .inl u.2.2.2.2))] := hD
      refine lv_aload_n hx hb d_PS_state_23 rfl (lv_at hl 0 rfl) ?_
      refine va_get (D := (dC, dI)) (ci := 7) (v := .ref dg) (C := R_Re) (T := F_Re) (N := 5) hx hb hts i_Re hown hK hP 2 rfl rfl 1 (by decide) (hts _ gw_530) (fun _ h9 => h9) rfl d_PS_state_24 ?_
      refine lv_iload_n hx hb d_PS_state_27 rfl (lv_at hl 3 rfl) ?_
      refine va_bald hx hb hK hP 8 1 rfl rfl (vp_in_nI (by omega) (by omega)) d_PS_state_28 ?_
      rw [show (nI n1).toNatClampNeg = n1 from nI_clamp (by omega)]
      refine lv_topi (fun x_1 ex_1 => ?_)
      obtain rfl : x_1 = sh_outb st_0 n1 := by rw [ex_1]; first | done | (exact hw n1 hn1)
      refine lv_sipush (v := 255) hx hb d_PS_state_29 (by decide) ?_
      refine lv_iand hx hb d_PS_state_32 ?_
      refine W.widen (k := 2) (n := 12) (Nat.le_of_ble_eq_true rfl) (Nat.le_of_ble_eq_true rfl) ?_
      exact xc_ret (W.iret (v := sh_outb st_0 n1 &&& 255) hx hb hr (fun t ht hW => ⟨Or.inl ⟨_, (), rfl, ⟨⟨n0, hn0, en0⟩, n1, hn1, rfl, rfl⟩, trivial⟩, hS.F ht⟩) hS.2.2 d_PS_state_33)
    · obtain ⟨hbad, rfl⟩ := hw
      refine xc_TW.widen (k := 2) (n := 12) (Nat.le_of_ble_eq_true rfl) (Nat.le_of_ble_eq_true rfl) ?_
      exact xc_pass (u := ()) hlocks hno ht hvm hex (Or.inr ⟨⟨n0, hn0, en0⟩, hbad, rfl⟩) (fun _ _ _ => trivial) hS
  · obtain ⟨hbad, rfl⟩ := hw
    refine xc_TW.widen (k := 2) (n := 12) (Nat.le_of_ble_eq_true rfl) (Nat.le_of_ble_eq_true rfl) ?_
    exact xc_pass (u := ()) hlocks hno ht hvm hex (Or.inl ⟨hbad, rfl⟩) (fun _ _ _ => trivial) hS
