/-! 30.state0.lean.txt -/
theorem gw_241 : (Jvm.Cond.fieldLink "PatchStore$Repository" (46 : Nat) "PatchStore$Stock" "patches" "I") ∈ xg_1 := xg_s2 1 rfl rfl
theorem gw_530 : (Jvm.Cond.fieldLink "PatchStore" (208 : Nat) "PatchStore$Repository" "digest" "[B") ∈ xg_1 := xg_s3 50 rfl rfl
theorem gw_535 : (Jvm.Cond.fieldLink "PatchStore$Repository" (38 : Nat) "PatchStore$Repository" "version" "I") ∈ xg_1 := xg_s3 55 rfl rfl
theorem gw_834 : (Jvm.Cond.instanceMethod ({ cls := "PatchStore$Sha256", name := "begin", desc := "()V" } : Jvm.MethodName)) ∈ xg_1 := xg_s4 114 rfl rfl
theorem gw_835 : (Jvm.Cond.selects "PatchStore$Sha256" ({ cls := "PatchStore$Sha256", name := "begin", desc := "()V" } : Jvm.MethodName) ({ cls := "PatchStore$Sha256", name := "begin", desc := "()V" } : Jvm.MethodName)) ∈ xg_1 := xg_s4 115 rfl rfl
theorem gw_836 : (Jvm.Cond.code ({ cls := "PatchStore$Sha256", name := "begin", desc := "()V" } : Jvm.MethodName) prog_9_method_2_code (2 : Nat) (Option.none : Option Jvm.ClassFile.FieldType)) ∈ xg_1 := xg_s4 116 rfl rfl
theorem gw_858 : (Jvm.Cond.instanceMethod ({ cls := "PatchStore$Sha256", name := "finish", desc := "([BI)V" } : Jvm.MethodName)) ∈ xg_1 := xg_s4 138 rfl rfl
theorem gw_859 : (Jvm.Cond.selects "PatchStore$Sha256" ({ cls := "PatchStore$Sha256", name := "finish", desc := "([BI)V" } : Jvm.MethodName) ({ cls := "PatchStore$Sha256", name := "finish", desc := "([BI)V" } : Jvm.MethodName)) ∈ xg_1 := xg_s4 139 rfl rfl
theorem gw_860 : (Jvm.Cond.code ({ cls := "PatchStore$Sha256", name := "finish", desc := "([BI)V" } : Jvm.MethodName) prog_9_method_4_code (6 : Nat) (Option.none : Option Jvm.ClassFile.FieldType)) ∈ xg_1 := xg_s4 140 rfl rfl
theorem gw_1276 : (Jvm.Cond.methodLink "PatchStore" (199 : Nat) ({ cls := "PatchStore", name := "checkHashIndex", desc := "(I)V" } : Jvm.MethodName)) ∈ xg_1 := xg_s6 76 rfl rfl
theorem gw_1278 : (Jvm.Cond.instanceMethod ({ cls := "PatchStore", name := "checkHashIndex", desc := "(I)V" } : Jvm.MethodName)) ∈ xg_1 := xg_s6 78 rfl rfl
theorem gw_1279 : (Jvm.Cond.code ({ cls := "PatchStore", name := "checkHashIndex", desc := "(I)V" } : Jvm.MethodName) prog_1_method_25_code (2 : Nat) (Option.none : Option Jvm.ClassFile.FieldType)) ∈ xg_1 := xg_s6 79 rfl rfl
theorem gw_1302 : (Jvm.Cond.methodLink "PatchStore" (205 : Nat) ({ cls := "PatchStore$Repository", name := "refreshDigest", desc := "(LPatchStore$Stock;LPatchStore$Sha256;)V" } : Jvm.MethodName)) ∈ xg_1 := xg_s6 102 rfl rfl
theorem gw_1303 : (Jvm.Cond.instanceMethod ({ cls := "PatchStore$Repository", name := "refreshDigest", desc := "(LPatchStore$Stock;LPatchStore$Sha256;)V" } : Jvm.MethodName)) ∈ xg_1 := xg_s6 103 rfl rfl
theorem gw_1304 : (Jvm.Cond.selects "PatchStore$Repository" ({ cls := "PatchStore$Repository", name := "refreshDigest", desc := "(LPatchStore$Stock;LPatchStore$Sha256;)V" } : Jvm.MethodName) ({ cls := "PatchStore$Repository", name := "refreshDigest", desc := "(LPatchStore$Stock;LPatchStore$Sha256;)V" } : Jvm.MethodName)) ∈ xg_1 := xg_s6 104 rfl rfl
theorem gw_1305 : (Jvm.Cond.code ({ cls := "PatchStore$Repository", name := "refreshDigest", desc := "(LPatchStore$Stock;LPatchStore$Sha256;)V" } : Jvm.MethodName) prog_8_method_8_code (5 : Nat) (Option.none : Option Jvm.ClassFile.FieldType)) ∈ xg_1 := xg_s6 105 rfl rfl
theorem gw_1306 : (Jvm.Cond.methodLink "PatchStore$Repository" (41 : Nat) ({ cls := "PatchStore$Sha256", name := "begin", desc := "()V" } : Jvm.MethodName)) ∈ xg_1 := xg_s6 106 rfl rfl
theorem gw_1308 : (Jvm.Cond.methodLink "PatchStore$Repository" (62 : Nat) ({ cls := "PatchStore$Sha256", name := "finish", desc := "([BI)V" } : Jvm.MethodName)) ∈ xg_1 := xg_s6 108 rfl rfl
def y_Re_refreshDigest : MethodName := ⟨"PatchStore$Repository", "refreshDigest", "(LPatchStore$Stock;LPatchStore$Sha256;)V"⟩
abbrev c_Re_refreshDigest : Cond := (Jvm.Cond.code ({ cls := "PatchStore$Repository", name := "refreshDigest", desc := "(LPatchStore$Stock;LPatchStore$Sha256;)V" } : Jvm.MethodName) prog_8_method_8_code (5 : Nat) (Option.none : Option Jvm.ClassFile.FieldType))
abbrev ws_Re_refreshDigest : List Cond := c_Re_refreshDigest :: xg_1
theorem d_Re_refreshDigest_0 : decode prog_8_method_8_code 0 = .ok (.aload_n 0, 1) := by decide +kernel
theorem d_Re_refreshDigest_1 : decode prog_8_method_8_code 1 = .ok (.getfield 19, 3) := by decide +kernel
theorem d_Re_refreshDigest_4 : decode prog_8_method_8_code 4 = .ok (.aload_n 0, 1) := by decide +kernel
theorem d_Re_refreshDigest_5 : decode prog_8_method_8_code 5 = .ok (.getfield 38, 3) := by decide +kernel
theorem d_Re_refreshDigest_8 : decode prog_8_method_8_code 8 = .ok (.if_icmp .ne 4, 3) := by decide +kernel
theorem d_Re_refreshDigest_11 : decode prog_8_method_8_code 11 = .ok (.return_, 1) := by decide +kernel
theorem d_Re_refreshDigest_12 : decode prog_8_method_8_code 12 = .ok (.aload_n 2, 1) := by decide +kernel
theorem d_Re_refreshDigest_13 : decode prog_8_method_8_code 13 = .ok (.invokevirtual 41, 3) := by decide +kernel
theorem d_Re_refreshDigest_16 : decode prog_8_method_8_code 16 = .ok (.iconst 0, 1) := by decide +kernel
theorem d_Re_refreshDigest_17 : decode prog_8_method_8_code 17 = .ok (.istore_n 3, 1) := by decide +kernel
theorem d_Re_refreshDigest_18 : decode prog_8_method_8_code 18 = .ok (.iload_n 3, 1) := by decide +kernel
theorem d_Re_refreshDigest_19 : decode prog_8_method_8_code 19 = .ok (.aload_n 1, 1) := by decide +kernel
theorem d_Re_refreshDigest_20 : decode prog_8_method_8_code 20 = .ok (.getfield 46, 3) := by decide +kernel
theorem d_Re_refreshDigest_23 : decode prog_8_method_8_code 23 = .ok (.if_icmp .ge 41, 3) := by decide +kernel
theorem d_Re_refreshDigest_26 : decode prog_8_method_8_code 26 = .ok (.aload_n 1, 1) := by decide +kernel
theorem d_Re_refreshDigest_27 : decode prog_8_method_8_code 27 = .ok (.getfield 51, 3) := by decide +kernel
theorem d_Re_refreshDigest_30 : decode prog_8_method_8_code 30 = .ok (.iload_n 3, 1) := by decide +kernel
theorem d_Re_refreshDigest_31 : decode prog_8_method_8_code 31 = .ok (.iaload, 1) := by decide +kernel
theorem d_Re_refreshDigest_32 : decode prog_8_method_8_code 32 = .ok (.istore 4, 2) := by decide +kernel
theorem d_Re_refreshDigest_34 : decode prog_8_method_8_code 34 = .ok (.aload_n 0, 1) := by decide +kernel
theorem d_Re_refreshDigest_35 : decode prog_8_method_8_code 35 = .ok (.iload 4, 2) := by decide +kernel
theorem d_Re_refreshDigest_37 : decode prog_8_method_8_code 37 = .ok (.invokevirtual 31, 3) := by decide +kernel
theorem d_Re_refreshDigest_40 : decode prog_8_method_8_code 40 = .ok (.ifCond .eq 18, 3) := by decide +kernel
theorem d_Re_refreshDigest_43 : decode prog_8_method_8_code 43 = .ok (.aload_n 2, 1) := by decide +kernel
theorem d_Re_refreshDigest_44 : decode prog_8_method_8_code 44 = .ok (.aload_n 1, 1) := by decide +kernel
theorem d_Re_refreshDigest_45 : decode prog_8_method_8_code 45 = .ok (.getfield 55, 3) := by decide +kernel
theorem d_Re_refreshDigest_48 : decode prog_8_method_8_code 48 = .ok (.iload 4, 2) := by decide +kernel
theorem d_Re_refreshDigest_50 : decode prog_8_method_8_code 50 = .ok (.bipush 32, 2) := by decide +kernel
theorem d_Re_refreshDigest_52 : decode prog_8_method_8_code 52 = .ok (.imul, 1) := by decide +kernel
theorem d_Re_refreshDigest_53 : decode prog_8_method_8_code 53 = .ok (.bipush 32, 2) := by decide +kernel
theorem d_Re_refreshDigest_55 : decode prog_8_method_8_code 55 = .ok (.invokevirtual 58, 3) := by decide +kernel
theorem d_Re_refreshDigest_58 : decode prog_8_method_8_code 58 = .ok (.iinc 3 1, 3) := by decide +kernel
theorem d_Re_refreshDigest_61 : decode prog_8_method_8_code 61 = .ok (.goto (-43), 3) := by decide +kernel
theorem d_Re_refreshDigest_64 : decode prog_8_method_8_code 64 = .ok (.aload_n 2, 1) := by decide +kernel
theorem d_Re_refreshDigest_65 : decode prog_8_method_8_code 65 = .ok (.aload_n 0, 1) := by decide +kernel
theorem d_Re_refreshDigest_66 : decode prog_8_method_8_code 66 = .ok (.getfield 15, 3) := by decide +kernel
theorem d_Re_refreshDigest_69 : decode prog_8_method_8_code 69 = .ok (.iconst 0, 1) := by decide +kernel
theorem d_Re_refreshDigest_70 : decode prog_8_method_8_code 70 = .ok (.invokevirtual 62, 3) := by decide +kernel
theorem d_Re_refreshDigest_73 : decode prog_8_method_8_code 73 = .ok (.aload_n 0, 1) := by decide +kernel
theorem d_Re_refreshDigest_74 : decode prog_8_method_8_code 74 = .ok (.aload_n 0, 1) := by decide +kernel
theorem d_Re_refreshDigest_75 : decode prog_8_method_8_code 75 = .ok (.getfield 38, 3) := by decide +kernel
theorem d_Re_refreshDigest_78 : decode prog_8_method_8_code 78 = .ok (.putfield 19, 3) := by decide +kernel
theorem d_Re_refreshDigest_81 : decode prog_8_method_8_code 81 = .ok (.return_, 1) := by decide +kernel
def y_PS_state : MethodName := ⟨"PatchStore", "state", "(II)I"⟩
abbrev c_PS_state : Cond := (Jvm.Cond.code ({ cls := "PatchStore", name := "state", desc := "(II)I" } : Jvm.MethodName) prog_1_method_14_code (4 : Nat) (Option.some Jvm.ClassFile.FieldType.int))
abbrev ws_PS_state : List Cond := c_PS_state :: xg_1
theorem d_PS_state_0 : decode prog_1_method_14_code 0 = .ok (.aload_n 0, 1) := by decide +kernel
theorem d_PS_state_1 : decode prog_1_method_14_code 1 = .ok (.iload_n 1, 1) := by decide +kernel
theorem d_PS_state_2 : decode prog_1_method_14_code 2 = .ok (.invokevirtual 90, 3) := by decide +kernel
theorem d_PS_state_5 : decode prog_1_method_14_code 5 = .ok (.astore_n 3, 1) := by decide +kernel
theorem d_PS_state_6 : decode prog_1_method_14_code 6 = .ok (.aload_n 0, 1) := by decide +kernel
theorem d_PS_state_7 : decode prog_1_method_14_code 7 = .ok (.iload_n 2, 1) := by decide +kernel
theorem d_PS_state_8 : decode prog_1_method_14_code 8 = .ok (.invokevirtual 199, 3) := by decide +kernel
theorem d_PS_state_11 : decode prog_1_method_14_code 11 = .ok (.aload_n 3, 1) := by decide +kernel
theorem d_PS_state_12 : decode prog_1_method_14_code 12 = .ok (.aload_n 0, 1) := by decide +kernel
theorem d_PS_state_13 : decode prog_1_method_14_code 13 = .ok (.getfield 30, 3) := by decide +kernel
theorem d_PS_state_16 : decode prog_1_method_14_code 16 = .ok (.aload_n 0, 1) := by decide +kernel
theorem d_PS_state_17 : decode prog_1_method_14_code 17 = .ok (.getfield 23, 3) := by decide +kernel
theorem d_PS_state_20 : decode prog_1_method_14_code 20 = .ok (.invokevirtual 205, 3) := by decide +kernel
theorem d_PS_state_23 : decode prog_1_method_14_code 23 = .ok (.aload_n 3, 1) := by decide +kernel
theorem d_PS_state_24 : decode prog_1_method_14_code 24 = .ok (.getfield 208, 3) := by decide +kernel
theorem d_PS_state_27 : decode prog_1_method_14_code 27 = .ok (.iload_n 2, 1) := by decide +kernel
theorem d_PS_state_28 : decode prog_1_method_14_code 28 = .ok (.baload, 1) := by decide +kernel
theorem d_PS_state_29 : decode prog_1_method_14_code 29 = .ok (.sipush 255, 3) := by decide +kernel
theorem d_PS_state_32 : decode prog_1_method_14_code 32 = .ok (.iand, 1) := by decide +kernel
theorem d_PS_state_33 : decode prog_1_method_14_code 33 = .ok (.ireturn, 1) := by decide +kernel
theorem sh_wstep_congr {b b' : Nat → Int32} (h : ∀ j, j < 64 → b j = b' j) {g : Nat → Int32} {n : Nat} : sh_wstep b g n = sh_wstep b' g n := by
  unfold sh_wstep
  by_cases e : n < 16
  · rw [if_pos e, if_pos e]; unfold sh_be; rw [h (4 * n) (by omega), h (4 * n + 1) (by omega), h (4 * n + 2) (by omega), h (4 * n + 3) (by omega)]
  · rw [if_neg e, if_neg e]
theorem sh_wf_congr {b b' : Nat → Int32} (h : ∀ j, j < 64 → b j = b' j) : ∀ n, sh_wf b n = sh_wf b' n
  | 0 => rfl
  | n + 1 => by
    show upd (sh_wf b n) n (sh_wstep b (sh_wf b n) n) = upd (sh_wf b' n) n (sh_wstep b' (sh_wf b' n) n)
    rw [sh_wf_congr h n, sh_wstep_congr h]
theorem sh_acc_at (f : Nat → Int32) (q1 q2 q3 q4 q5 q6 q7 q8 : Int32) : ∀ j, j < 8 → sh_acc f (q1, q2, q3, q4, q5, q6, q7, q8) j = f j + (match j with | 0 => q1 | 1 => q2 | 2 => q3 | 3 => q4 | 4 => q5 | 5 => q6 | 6 => q7 | _ => q8) := by
  intro j hj
  rcases (show j = 0 ∨ j = 1 ∨ j = 2 ∨ j = 3 ∨ j = 4 ∨ j = 5 ∨ j = 6 ∨ j = 7 by omega) with rfl | rfl | rfl | rfl | rfl | rfl | rfl | rfl <;> simp [sh_acc, upd]
theorem sh_comp_congr {f f' b b' : Nat → Int32} (hf : ∀ j, j < 8 → f j = f' j) (hb : ∀ j, j < 64 → b j = b' j) : ∀ j, j < 8 → sh_comp f b j = sh_comp f' b' j := by
  intro j hj
  unfold sh_comp
  rw [sh_wf_congr hb, show sh_in f = sh_in f' from by unfold sh_in; rw [hf _ (by decide), hf _ (by decide), hf _ (by decide), hf _ (by decide), hf _ (by decide), hf _ (by decide), hf _ (by decide), hf _ (by decide)]]
  obtain ⟨q1, q2, q3, q4, q5, q6, q7, q8⟩ := sh_rounds (sh_wf b' 64) 64 (sh_in f')
  rw [sh_acc_at _ _ _ _ _ _ _ _ _ j hj, sh_acc_at _ _ _ _ _ _ _ _ _ j hj, hf j hj]
