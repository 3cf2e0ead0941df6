/-! 37.msha2.lean.txt -/
theorem gw_1788 : (Jvm.Cond.methodLink "PatchStoreModel$Digest" (49 : Nat) ({ cls := "PatchStoreModel$Digest", name := "turn", desc := "()V" } : Jvm.MethodName)) ∈ xg_1 := xg_s8 108 rfl rfl
theorem gn_1789 : (Jvm.Cond.privateMethod ({ cls := "PatchStoreModel$Digest", name := "turn", desc := "()V" } : Jvm.MethodName)) ∈ xg_2 := xg_u8 109 rfl rfl
theorem gw_1790 : (Jvm.Cond.instanceMethod ({ cls := "PatchStoreModel$Digest", name := "turn", desc := "()V" } : Jvm.MethodName)) ∈ xg_1 := xg_s8 110 rfl rfl
theorem gw_1791 : (Jvm.Cond.code ({ cls := "PatchStoreModel$Digest", name := "turn", desc := "()V" } : Jvm.MethodName) prog_15_method_10_code (1 : Nat) (Option.none : Option Jvm.ClassFile.FieldType)) ∈ xg_1 := xg_s8 111 rfl rfl
theorem gw_1792 : (Jvm.Cond.methodLink "PatchStoreModel$Digest" (52 : Nat) ({ cls := "PatchStoreModel$Digest", name := "compress", desc := "([BI)V" } : Jvm.MethodName)) ∈ xg_1 := xg_s8 112 rfl rfl
theorem gn_1793 : (Jvm.Cond.declares ({ cls := "PatchStoreModel$Digest", name := "compress", desc := "([BI)V" } : Jvm.MethodName)) ∈ xg_2 := xg_u8 113 rfl rfl
theorem gw_1794 : (Jvm.Cond.sameMethod "PatchStoreModel$Digest" "PatchStoreModel$Digest" "compress" "([BI)V") ∈ xg_1 := xg_s8 114 rfl rfl
theorem gw_1795 : (Jvm.Cond.selects "PatchStoreModel$Sha256" ({ cls := "PatchStoreModel$Digest", name := "compress", desc := "([BI)V" } : Jvm.MethodName) ({ cls := "PatchStoreModel$Sha256", name := "compress", desc := "([BI)V" } : Jvm.MethodName)) ∈ xg_1 := xg_s8 115 rfl rfl
theorem gw_1796 : (Jvm.Cond.instanceMethod ({ cls := "PatchStoreModel$Sha256", name := "compress", desc := "([BI)V" } : Jvm.MethodName)) ∈ xg_1 := xg_s8 116 rfl rfl
theorem gw_1797 : (Jvm.Cond.code ({ cls := "PatchStoreModel$Sha256", name := "compress", desc := "([BI)V" } : Jvm.MethodName) prog_17_method_5_code (16 : Nat) (Option.none : Option Jvm.ClassFile.FieldType)) ∈ xg_1 := xg_s8 117 rfl rfl
theorem gw_1798 : (Jvm.Cond.methodLink "PatchStoreModel$Sha256" (38 : Nat) ({ cls := "PatchStoreModel$Sha256", name := "spread", desc := "([BI)V" } : Jvm.MethodName)) ∈ xg_1 := xg_s8 118 rfl rfl
theorem gw_1800 : (Jvm.Cond.instanceMethod ({ cls := "PatchStoreModel$Sha256", name := "spread", desc := "([BI)V" } : Jvm.MethodName)) ∈ xg_1 := xg_s8 120 rfl rfl
theorem gw_1801 : (Jvm.Cond.code ({ cls := "PatchStoreModel$Sha256", name := "spread", desc := "([BI)V" } : Jvm.MethodName) prog_17_method_4_code (8 : Nat) (Option.none : Option Jvm.ClassFile.FieldType)) ∈ xg_1 := xg_s8 121 rfl rfl
theorem gn_1808 : (Jvm.Cond.fieldLinkNest "PatchStoreModel$Sha256" (42 : Nat) "PatchStoreModel" "ROOTS" "[J" "PatchStoreModel") ∈ xg_2 := xg_u8 128 rfl rfl
theorem gw_1820 : (Jvm.Cond.selects "PatchStoreModel$Sha256" ({ cls := "PatchStoreModel$Digest", name := "one", desc := "(I)V" } : Jvm.MethodName) ({ cls := "PatchStoreModel$Digest", name := "one", desc := "(I)V" } : Jvm.MethodName)) ∈ xg_1 := xg_s8 140 rfl rfl
def y_MS_compress : MethodName := ⟨"PatchStoreModel$Sha256", "compress", "([BI)V"⟩
abbrev c_MS_compress : Cond := (Jvm.Cond.code ({ cls := "PatchStoreModel$Sha256", name := "compress", desc := "([BI)V" } : Jvm.MethodName) prog_17_method_5_code (16 : Nat) (Option.none : Option Jvm.ClassFile.FieldType))
abbrev ws_MS_compress : List Cond := c_MS_compress :: xg_1
theorem d_MS_compress_0 : decode prog_17_method_5_code 0 = .ok (.aload_n 0, 1) := by decide +kernel
theorem d_MS_compress_1 : decode prog_17_method_5_code 1 = .ok (.aload_n 1, 1) := by decide +kernel
theorem d_MS_compress_2 : decode prog_17_method_5_code 2 = .ok (.iload_n 2, 1) := by decide +kernel
theorem d_MS_compress_3 : decode prog_17_method_5_code 3 = .ok (.invokevirtual 38, 3) := by decide +kernel
theorem d_MS_compress_6 : decode prog_17_method_5_code 6 = .ok (.aload_n 0, 1) := by decide +kernel
theorem d_MS_compress_7 : decode prog_17_method_5_code 7 = .ok (.getfield 7, 3) := by decide +kernel
theorem d_MS_compress_10 : decode prog_17_method_5_code 10 = .ok (.iconst 0, 1) := by decide +kernel
theorem d_MS_compress_11 : decode prog_17_method_5_code 11 = .ok (.iaload, 1) := by decide +kernel
theorem d_MS_compress_12 : decode prog_17_method_5_code 12 = .ok (.istore_n 3, 1) := by decide +kernel
theorem d_MS_compress_13 : decode prog_17_method_5_code 13 = .ok (.aload_n 0, 1) := by decide +kernel
theorem d_MS_compress_14 : decode prog_17_method_5_code 14 = .ok (.getfield 7, 3) := by decide +kernel
theorem d_MS_compress_17 : decode prog_17_method_5_code 17 = .ok (.iconst 1, 1) := by decide +kernel
theorem d_MS_compress_18 : decode prog_17_method_5_code 18 = .ok (.iaload, 1) := by decide +kernel
theorem d_MS_compress_19 : decode prog_17_method_5_code 19 = .ok (.istore 4, 2) := by decide +kernel
theorem d_MS_compress_21 : decode prog_17_method_5_code 21 = .ok (.aload_n 0, 1) := by decide +kernel
theorem d_MS_compress_22 : decode prog_17_method_5_code 22 = .ok (.getfield 7, 3) := by decide +kernel
theorem d_MS_compress_25 : decode prog_17_method_5_code 25 = .ok (.iconst 2, 1) := by decide +kernel
theorem d_MS_compress_26 : decode prog_17_method_5_code 26 = .ok (.iaload, 1) := by decide +kernel
theorem d_MS_compress_27 : decode prog_17_method_5_code 27 = .ok (.istore 5, 2) := by decide +kernel
theorem d_MS_compress_29 : decode prog_17_method_5_code 29 = .ok (.aload_n 0, 1) := by decide +kernel
theorem d_MS_compress_30 : decode prog_17_method_5_code 30 = .ok (.getfield 7, 3) := by decide +kernel
theorem d_MS_compress_33 : decode prog_17_method_5_code 33 = .ok (.iconst 3, 1) := by decide +kernel
theorem d_MS_compress_34 : decode prog_17_method_5_code 34 = .ok (.iaload, 1) := by decide +kernel
theorem d_MS_compress_35 : decode prog_17_method_5_code 35 = .ok (.istore 6, 2) := by decide +kernel
theorem d_MS_compress_37 : decode prog_17_method_5_code 37 = .ok (.aload_n 0, 1) := by decide +kernel
theorem d_MS_compress_38 : decode prog_17_method_5_code 38 = .ok (.getfield 7, 3) := by decide +kernel
theorem d_MS_compress_41 : decode prog_17_method_5_code 41 = .ok (.iconst 4, 1) := by decide +kernel
theorem d_MS_compress_42 : decode prog_17_method_5_code 42 = .ok (.iaload, 1) := by decide +kernel
theorem d_MS_compress_43 : decode prog_17_method_5_code 43 = .ok (.istore 7, 2) := by decide +kernel
theorem d_MS_compress_45 : decode prog_17_method_5_code 45 = .ok (.aload_n 0, 1) := by decide +kernel
theorem d_MS_compress_46 : decode prog_17_method_5_code 46 = .ok (.getfield 7, 3) := by decide +kernel
theorem d_MS_compress_49 : decode prog_17_method_5_code 49 = .ok (.iconst 5, 1) := by decide +kernel
theorem d_MS_compress_50 : decode prog_17_method_5_code 50 = .ok (.iaload, 1) := by decide +kernel
theorem d_MS_compress_51 : decode prog_17_method_5_code 51 = .ok (.istore 8, 2) := by decide +kernel
theorem d_MS_compress_53 : decode prog_17_method_5_code 53 = .ok (.aload_n 0, 1) := by decide +kernel
theorem d_MS_compress_54 : decode prog_17_method_5_code 54 = .ok (.getfield 7, 3) := by decide +kernel
theorem d_MS_compress_57 : decode prog_17_method_5_code 57 = .ok (.bipush 6, 2) := by decide +kernel
theorem d_MS_compress_59 : decode prog_17_method_5_code 59 = .ok (.iaload, 1) := by decide +kernel
theorem d_MS_compress_60 : decode prog_17_method_5_code 60 = .ok (.istore 9, 2) := by decide +kernel
theorem d_MS_compress_62 : decode prog_17_method_5_code 62 = .ok (.aload_n 0, 1) := by decide +kernel
theorem d_MS_compress_63 : decode prog_17_method_5_code 63 = .ok (.getfield 7, 3) := by decide +kernel
theorem d_MS_compress_66 : decode prog_17_method_5_code 66 = .ok (.bipush 7, 2) := by decide +kernel
theorem d_MS_compress_68 : decode prog_17_method_5_code 68 = .ok (.iaload, 1) := by decide +kernel
theorem d_MS_compress_69 : decode prog_17_method_5_code 69 = .ok (.istore 10, 2) := by decide +kernel
theorem d_MS_compress_71 : decode prog_17_method_5_code 71 = .ok (.iconst 0, 1) := by decide +kernel
theorem d_MS_compress_72 : decode prog_17_method_5_code 72 = .ok (.istore 11, 2) := by decide +kernel
theorem d_MS_compress_74 : decode prog_17_method_5_code 74 = .ok (.iload 11, 2) := by decide +kernel
theorem d_MS_compress_76 : decode prog_17_method_5_code 76 = .ok (.bipush 64, 2) := by decide +kernel
theorem d_MS_compress_78 : decode prog_17_method_5_code 78 = .ok (.if_icmp .ge 151, 3) := by decide +kernel
theorem d_MS_compress_81 : decode prog_17_method_5_code 81 = .ok (.iload 7, 2) := by decide +kernel
theorem d_MS_compress_83 : decode prog_17_method_5_code 83 = .ok (.bipush 6, 2) := by decide +kernel
theorem d_MS_compress_85 : decode prog_17_method_5_code 85 = .ok (.invokestatic 32, 3) := by decide +kernel
theorem d_MS_compress_88 : decode prog_17_method_5_code 88 = .ok (.iload 7, 2) := by decide +kernel
theorem d_MS_compress_90 : decode prog_17_method_5_code 90 = .ok (.bipush 11, 2) := by decide +kernel
theorem d_MS_compress_92 : decode prog_17_method_5_code 92 = .ok (.invokestatic 32, 3) := by decide +kernel
theorem d_MS_compress_95 : decode prog_17_method_5_code 95 = .ok (.ixor, 1) := by decide +kernel
theorem d_MS_compress_96 : decode prog_17_method_5_code 96 = .ok (.iload 7, 2) := by decide +kernel
theorem d_MS_compress_98 : decode prog_17_method_5_code 98 = .ok (.bipush 25, 2) := by decide +kernel
theorem d_MS_compress_100 : decode prog_17_method_5_code 100 = .ok (.invokestatic 32, 3) := by decide +kernel
theorem d_MS_compress_103 : decode prog_17_method_5_code 103 = .ok (.ixor, 1) := by decide +kernel
theorem d_MS_compress_104 : decode prog_17_method_5_code 104 = .ok (.istore 12, 2) := by decide +kernel
theorem d_MS_compress_106 : decode prog_17_method_5_code 106 = .ok (.iload 10, 2) := by decide +kernel
theorem d_MS_compress_108 : decode prog_17_method_5_code 108 = .ok (.iload 12, 2) := by decide +kernel
theorem d_MS_compress_110 : decode prog_17_method_5_code 110 = .ok (.iadd, 1) := by decide +kernel
theorem d_MS_compress_111 : decode prog_17_method_5_code 111 = .ok (.iload 7, 2) := by decide +kernel
theorem d_MS_compress_113 : decode prog_17_method_5_code 113 = .ok (.iload 8, 2) := by decide +kernel
theorem d_MS_compress_115 : decode prog_17_method_5_code 115 = .ok (.iand, 1) := by decide +kernel
theorem d_MS_compress_116 : decode prog_17_method_5_code 116 = .ok (.iload 7, 2) := by decide +kernel
theorem d_MS_compress_118 : decode prog_17_method_5_code 118 = .ok (.iconst (-1), 1) := by decide +kernel
theorem d_MS_compress_119 : decode prog_17_method_5_code 119 = .ok (.ixor, 1) := by decide +kernel
theorem d_MS_compress_120 : decode prog_17_method_5_code 120 = .ok (.iload 9, 2) := by decide +kernel
theorem d_MS_compress_122 : decode prog_17_method_5_code 122 = .ok (.iand, 1) := by decide +kernel
theorem d_MS_compress_123 : decode prog_17_method_5_code 123 = .ok (.ixor, 1) := by decide +kernel
theorem d_MS_compress_124 : decode prog_17_method_5_code 124 = .ok (.iadd, 1) := by decide +kernel
theorem d_MS_compress_125 : decode prog_17_method_5_code 125 = .ok (.getstatic 42, 3) := by decide +kernel
theorem d_MS_compress_128 : decode prog_17_method_5_code 128 = .ok (.iload 11, 2) := by decide +kernel
theorem d_MS_compress_130 : decode prog_17_method_5_code 130 = .ok (.laload, 1) := by decide +kernel
theorem d_MS_compress_131 : decode prog_17_method_5_code 131 = .ok (.bipush 32, 2) := by decide +kernel
theorem d_MS_compress_133 : decode prog_17_method_5_code 133 = .ok (.lushr, 1) := by decide +kernel
theorem d_MS_compress_134 : decode prog_17_method_5_code 134 = .ok (.l2i, 1) := by decide +kernel
theorem d_MS_compress_135 : decode prog_17_method_5_code 135 = .ok (.iadd, 1) := by decide +kernel
theorem d_MS_compress_136 : decode prog_17_method_5_code 136 = .ok (.aload_n 0, 1) := by decide +kernel
theorem d_MS_compress_137 : decode prog_17_method_5_code 137 = .ok (.getfield 13, 3) := by decide +kernel
theorem d_MS_compress_140 : decode prog_17_method_5_code 140 = .ok (.iload 11, 2) := by decide +kernel
theorem d_MS_compress_142 : decode prog_17_method_5_code 142 = .ok (.iaload, 1) := by decide +kernel
theorem d_MS_compress_143 : decode prog_17_method_5_code 143 = .ok (.iadd, 1) := by decide +kernel
theorem d_MS_compress_144 : decode prog_17_method_5_code 144 = .ok (.istore 13, 2) := by decide +kernel
theorem d_MS_compress_146 : decode prog_17_method_5_code 146 = .ok (.iload_n 3, 1) := by decide +kernel
theorem d_MS_compress_147 : decode prog_17_method_5_code 147 = .ok (.iconst 2, 1) := by decide +kernel
theorem d_MS_compress_148 : decode prog_17_method_5_code 148 = .ok (.invokestatic 32, 3) := by decide +kernel
theorem d_MS_compress_151 : decode prog_17_method_5_code 151 = .ok (.iload_n 3, 1) := by decide +kernel
theorem d_MS_compress_152 : decode prog_17_method_5_code 152 = .ok (.bipush 13, 2) := by decide +kernel
theorem d_MS_compress_154 : decode prog_17_method_5_code 154 = .ok (.invokestatic 32, 3) := by decide +kernel
theorem d_MS_compress_157 : decode prog_17_method_5_code 157 = .ok (.ixor, 1) := by decide +kernel
theorem d_MS_compress_158 : decode prog_17_method_5_code 158 = .ok (.iload_n 3, 1) := by decide +kernel
theorem d_MS_compress_159 : decode prog_17_method_5_code 159 = .ok (.bipush 22, 2) := by decide +kernel
theorem d_MS_compress_161 : decode prog_17_method_5_code 161 = .ok (.invokestatic 32, 3) := by decide +kernel
theorem d_MS_compress_164 : decode prog_17_method_5_code 164 = .ok (.ixor, 1) := by decide +kernel
theorem d_MS_compress_165 : decode prog_17_method_5_code 165 = .ok (.istore 14, 2) := by decide +kernel
theorem d_MS_compress_167 : decode prog_17_method_5_code 167 = .ok (.iload 14, 2) := by decide +kernel
theorem d_MS_compress_169 : decode prog_17_method_5_code 169 = .ok (.iload_n 3, 1) := by decide +kernel
theorem d_MS_compress_170 : decode prog_17_method_5_code 170 = .ok (.iload 4, 2) := by decide +kernel
theorem d_MS_compress_172 : decode prog_17_method_5_code 172 = .ok (.iand, 1) := by decide +kernel
theorem d_MS_compress_173 : decode prog_17_method_5_code 173 = .ok (.iload_n 3, 1) := by decide +kernel
theorem d_MS_compress_174 : decode prog_17_method_5_code 174 = .ok (.iload 5, 2) := by decide +kernel
theorem d_MS_compress_176 : decode prog_17_method_5_code 176 = .ok (.iand, 1) := by decide +kernel
theorem d_MS_compress_177 : decode prog_17_method_5_code 177 = .ok (.ixor, 1) := by decide +kernel
theorem d_MS_compress_178 : decode prog_17_method_5_code 178 = .ok (.iload 4, 2) := by decide +kernel
theorem d_MS_compress_180 : decode prog_17_method_5_code 180 = .ok (.iload 5, 2) := by decide +kernel
theorem d_MS_compress_182 : decode prog_17_method_5_code 182 = .ok (.iand, 1) := by decide +kernel
theorem d_MS_compress_183 : decode prog_17_method_5_code 183 = .ok (.ixor, 1) := by decide +kernel
theorem d_MS_compress_184 : decode prog_17_method_5_code 184 = .ok (.iadd, 1) := by decide +kernel
theorem d_MS_compress_185 : decode prog_17_method_5_code 185 = .ok (.istore 15, 2) := by decide +kernel
theorem d_MS_compress_187 : decode prog_17_method_5_code 187 = .ok (.iload 9, 2) := by decide +kernel
theorem d_MS_compress_189 : decode prog_17_method_5_code 189 = .ok (.istore 10, 2) := by decide +kernel
theorem d_MS_compress_191 : decode prog_17_method_5_code 191 = .ok (.iload 8, 2) := by decide +kernel
theorem d_MS_compress_193 : decode prog_17_method_5_code 193 = .ok (.istore 9, 2) := by decide +kernel
theorem d_MS_compress_195 : decode prog_17_method_5_code 195 = .ok (.iload 7, 2) := by decide +kernel
theorem d_MS_compress_197 : decode prog_17_method_5_code 197 = .ok (.istore 8, 2) := by decide +kernel
theorem d_MS_compress_199 : decode prog_17_method_5_code 199 = .ok (.iload 6, 2) := by decide +kernel
theorem d_MS_compress_201 : decode prog_17_method_5_code 201 = .ok (.iload 13, 2) := by decide +kernel
theorem d_MS_compress_203 : decode prog_17_method_5_code 203 = .ok (.iadd, 1) := by decide +kernel
theorem d_MS_compress_204 : decode prog_17_method_5_code 204 = .ok (.istore 7, 2) := by decide +kernel
theorem d_MS_compress_206 : decode prog_17_method_5_code 206 = .ok (.iload 5, 2) := by decide +kernel
theorem d_MS_compress_208 : decode prog_17_method_5_code 208 = .ok (.istore 6, 2) := by decide +kernel
theorem d_MS_compress_210 : decode prog_17_method_5_code 210 = .ok (.iload 4, 2) := by decide +kernel
theorem d_MS_compress_212 : decode prog_17_method_5_code 212 = .ok (.istore 5, 2) := by decide +kernel
theorem d_MS_compress_214 : decode prog_17_method_5_code 214 = .ok (.iload_n 3, 1) := by decide +kernel
theorem d_MS_compress_215 : decode prog_17_method_5_code 215 = .ok (.istore 4, 2) := by decide +kernel
theorem d_MS_compress_217 : decode prog_17_method_5_code 217 = .ok (.iload 13, 2) := by decide +kernel
theorem d_MS_compress_219 : decode prog_17_method_5_code 219 = .ok (.iload 15, 2) := by decide +kernel
theorem d_MS_compress_221 : decode prog_17_method_5_code 221 = .ok (.iadd, 1) := by decide +kernel
theorem d_MS_compress_222 : decode prog_17_method_5_code 222 = .ok (.istore_n 3, 1) := by decide +kernel
theorem d_MS_compress_223 : decode prog_17_method_5_code 223 = .ok (.iinc 11 1, 3) := by decide +kernel
theorem d_MS_compress_226 : decode prog_17_method_5_code 226 = .ok (.goto (-152), 3) := by decide +kernel
theorem d_MS_compress_229 : decode prog_17_method_5_code 229 = .ok (.aload_n 0, 1) := by decide +kernel
theorem d_MS_compress_230 : decode prog_17_method_5_code 230 = .ok (.getfield 7, 3) := by decide +kernel
theorem d_MS_compress_233 : decode prog_17_method_5_code 233 = .ok (.iconst 0, 1) := by decide +kernel
theorem d_MS_compress_234 : decode prog_17_method_5_code 234 = .ok (.dup2, 1) := by decide +kernel
theorem d_MS_compress_235 : decode prog_17_method_5_code 235 = .ok (.iaload, 1) := by decide +kernel
theorem d_MS_compress_236 : decode prog_17_method_5_code 236 = .ok (.iload_n 3, 1) := by decide +kernel
theorem d_MS_compress_237 : decode prog_17_method_5_code 237 = .ok (.iadd, 1) := by decide +kernel
theorem d_MS_compress_238 : decode prog_17_method_5_code 238 = .ok (.iastore, 1) := by decide +kernel
theorem d_MS_compress_239 : decode prog_17_method_5_code 239 = .ok (.aload_n 0, 1) := by decide +kernel
theorem d_MS_compress_240 : decode prog_17_method_5_code 240 = .ok (.getfield 7, 3) := by decide +kernel
theorem d_MS_compress_243 : decode prog_17_method_5_code 243 = .ok (.iconst 1, 1) := by decide +kernel
theorem d_MS_compress_244 : decode prog_17_method_5_code 244 = .ok (.dup2, 1) := by decide +kernel
theorem d_MS_compress_245 : decode prog_17_method_5_code 245 = .ok (.iaload, 1) := by decide +kernel
theorem d_MS_compress_246 : decode prog_17_method_5_code 246 = .ok (.iload 4, 2) := by decide +kernel
theorem d_MS_compress_248 : decode prog_17_method_5_code 248 = .ok (.iadd, 1) := by decide +kernel
theorem d_MS_compress_249 : decode prog_17_method_5_code 249 = .ok (.iastore, 1) := by decide +kernel
theorem d_MS_compress_250 : decode prog_17_method_5_code 250 = .ok (.aload_n 0, 1) := by decide +kernel
theorem d_MS_compress_251 : decode prog_17_method_5_code 251 = .ok (.getfield 7, 3) := by decide +kernel
theorem d_MS_compress_254 : decode prog_17_method_5_code 254 = .ok (.iconst 2, 1) := by decide +kernel
theorem d_MS_compress_255 : decode prog_17_method_5_code 255 = .ok (.dup2, 1) := by decide +kernel
theorem d_MS_compress_256 : decode prog_17_method_5_code 256 = .ok (.iaload, 1) := by decide +kernel
theorem d_MS_compress_257 : decode prog_17_method_5_code 257 = .ok (.iload 5, 2) := by decide +kernel
theorem d_MS_compress_259 : decode prog_17_method_5_code 259 = .ok (.iadd, 1) := by decide +kernel
theorem d_MS_compress_260 : decode prog_17_method_5_code 260 = .ok (.iastore, 1) := by decide +kernel
theorem d_MS_compress_261 : decode prog_17_method_5_code 261 = .ok (.aload_n 0, 1) := by decide +kernel
theorem d_MS_compress_262 : decode prog_17_method_5_code 262 = .ok (.getfield 7, 3) := by decide +kernel
theorem d_MS_compress_265 : decode prog_17_method_5_code 265 = .ok (.iconst 3, 1) := by decide +kernel
theorem d_MS_compress_266 : decode prog_17_method_5_code 266 = .ok (.dup2, 1) := by decide +kernel
theorem d_MS_compress_267 : decode prog_17_method_5_code 267 = .ok (.iaload, 1) := by decide +kernel
theorem d_MS_compress_268 : decode prog_17_method_5_code 268 = .ok (.iload 6, 2) := by decide +kernel
theorem d_MS_compress_270 : decode prog_17_method_5_code 270 = .ok (.iadd, 1) := by decide +kernel
theorem d_MS_compress_271 : decode prog_17_method_5_code 271 = .ok (.iastore, 1) := by decide +kernel
theorem d_MS_compress_272 : decode prog_17_method_5_code 272 = .ok (.aload_n 0, 1) := by decide +kernel
theorem d_MS_compress_273 : decode prog_17_method_5_code 273 = .ok (.getfield 7, 3) := by decide +kernel
theorem d_MS_compress_276 : decode prog_17_method_5_code 276 = .ok (.iconst 4, 1) := by decide +kernel
theorem d_MS_compress_277 : decode prog_17_method_5_code 277 = .ok (.dup2, 1) := by decide +kernel
theorem d_MS_compress_278 : decode prog_17_method_5_code 278 = .ok (.iaload, 1) := by decide +kernel
theorem d_MS_compress_279 : decode prog_17_method_5_code 279 = .ok (.iload 7, 2) := by decide +kernel
theorem d_MS_compress_281 : decode prog_17_method_5_code 281 = .ok (.iadd, 1) := by decide +kernel
theorem d_MS_compress_282 : decode prog_17_method_5_code 282 = .ok (.iastore, 1) := by decide +kernel
theorem d_MS_compress_283 : decode prog_17_method_5_code 283 = .ok (.aload_n 0, 1) := by decide +kernel
theorem d_MS_compress_284 : decode prog_17_method_5_code 284 = .ok (.getfield 7, 3) := by decide +kernel
theorem d_MS_compress_287 : decode prog_17_method_5_code 287 = .ok (.iconst 5, 1) := by decide +kernel
theorem d_MS_compress_288 : decode prog_17_method_5_code 288 = .ok (.dup2, 1) := by decide +kernel
theorem d_MS_compress_289 : decode prog_17_method_5_code 289 = .ok (.iaload, 1) := by decide +kernel
theorem d_MS_compress_290 : decode prog_17_method_5_code 290 = .ok (.iload 8, 2) := by decide +kernel
theorem d_MS_compress_292 : decode prog_17_method_5_code 292 = .ok (.iadd, 1) := by decide +kernel
theorem d_MS_compress_293 : decode prog_17_method_5_code 293 = .ok (.iastore, 1) := by decide +kernel
theorem d_MS_compress_294 : decode prog_17_method_5_code 294 = .ok (.aload_n 0, 1) := by decide +kernel
theorem d_MS_compress_295 : decode prog_17_method_5_code 295 = .ok (.getfield 7, 3) := by decide +kernel
theorem d_MS_compress_298 : decode prog_17_method_5_code 298 = .ok (.bipush 6, 2) := by decide +kernel
theorem d_MS_compress_300 : decode prog_17_method_5_code 300 = .ok (.dup2, 1) := by decide +kernel
theorem d_MS_compress_301 : decode prog_17_method_5_code 301 = .ok (.iaload, 1) := by decide +kernel
theorem d_MS_compress_302 : decode prog_17_method_5_code 302 = .ok (.iload 9, 2) := by decide +kernel
theorem d_MS_compress_304 : decode prog_17_method_5_code 304 = .ok (.iadd, 1) := by decide +kernel
theorem d_MS_compress_305 : decode prog_17_method_5_code 305 = .ok (.iastore, 1) := by decide +kernel
theorem d_MS_compress_306 : decode prog_17_method_5_code 306 = .ok (.aload_n 0, 1) := by decide +kernel
theorem d_MS_compress_307 : decode prog_17_method_5_code 307 = .ok (.getfield 7, 3) := by decide +kernel
theorem d_MS_compress_310 : decode prog_17_method_5_code 310 = .ok (.bipush 7, 2) := by decide +kernel
theorem d_MS_compress_312 : decode prog_17_method_5_code 312 = .ok (.dup2, 1) := by decide +kernel
theorem d_MS_compress_313 : decode prog_17_method_5_code 313 = .ok (.iaload, 1) := by decide +kernel
theorem d_MS_compress_314 : decode prog_17_method_5_code 314 = .ok (.iload 10, 2) := by decide +kernel
theorem d_MS_compress_316 : decode prog_17_method_5_code 316 = .ok (.iadd, 1) := by decide +kernel
theorem d_MS_compress_317 : decode prog_17_method_5_code 317 = .ok (.iastore, 1) := by decide +kernel
theorem d_MS_compress_318 : decode prog_17_method_5_code 318 = .ok (.return_, 1) := by decide +kernel
def y_MD_turn : MethodName := ⟨"PatchStoreModel$Digest", "turn", "()V"⟩
abbrev c_MD_turn : Cond := (Jvm.Cond.code ({ cls := "PatchStoreModel$Digest", name := "turn", desc := "()V" } : Jvm.MethodName) prog_15_method_10_code (1 : Nat) (Option.none : Option Jvm.ClassFile.FieldType))
abbrev ws_MD_turn : List Cond := c_MD_turn :: xg_1
theorem d_MD_turn_0 : decode prog_15_method_10_code 0 = .ok (.aload_n 0, 1) := by decide +kernel
theorem d_MD_turn_1 : decode prog_15_method_10_code 1 = .ok (.aload_n 0, 1) := by decide +kernel
theorem d_MD_turn_2 : decode prog_15_method_10_code 2 = .ok (.getfield 26, 3) := by decide +kernel
theorem d_MD_turn_5 : decode prog_15_method_10_code 5 = .ok (.iconst 0, 1) := by decide +kernel
theorem d_MD_turn_6 : decode prog_15_method_10_code 6 = .ok (.invokevirtual 52, 3) := by decide +kernel
theorem d_MD_turn_9 : decode prog_15_method_10_code 9 = .ok (.aload_n 0, 1) := by decide +kernel
theorem d_MD_turn_10 : decode prog_15_method_10_code 10 = .ok (.dup, 1) := by decide +kernel
theorem d_MD_turn_11 : decode prog_15_method_10_code 11 = .ok (.getfield 17, 3) := by decide +kernel
theorem d_MD_turn_14 : decode prog_15_method_10_code 14 = .ok (.iconst 1, 1) := by decide +kernel
theorem d_MD_turn_15 : decode prog_15_method_10_code 15 = .ok (.iadd, 1) := by decide +kernel
theorem d_MD_turn_16 : decode prog_15_method_10_code 16 = .ok (.putfield 17, 3) := by decide +kernel
theorem d_MD_turn_19 : decode prog_15_method_10_code 19 = .ok (.aload_n 0, 1) := by decide +kernel
theorem d_MD_turn_20 : decode prog_15_method_10_code 20 = .ok (.iconst 0, 1) := by decide +kernel
theorem d_MD_turn_21 : decode prog_15_method_10_code 21 = .ok (.putfield 7, 3) := by decide +kernel
theorem d_MD_turn_24 : decode prog_15_method_10_code 24 = .ok (.return_, 1) := by decide +kernel
def y_MD_one : MethodName := ⟨"PatchStoreModel$Digest", "one", "(I)V"⟩
abbrev c_MD_one : Cond := (Jvm.Cond.code ({ cls := "PatchStoreModel$Digest", name := "one", desc := "(I)V" } : Jvm.MethodName) prog_15_method_9_code (2 : Nat) (Option.none : Option Jvm.ClassFile.FieldType))
abbrev ws_MD_one : List Cond := c_MD_one :: xg_1
theorem d_MD_one_0 : decode prog_15_method_9_code 0 = .ok (.aload_n 0, 1) := by decide +kernel
theorem d_MD_one_1 : decode prog_15_method_9_code 1 = .ok (.dup, 1) := by decide +kernel
theorem d_MD_one_2 : decode prog_15_method_9_code 2 = .ok (.getfield 13, 3) := by decide +kernel
theorem d_MD_one_5 : decode prog_15_method_9_code 5 = .ok (.lconst 1, 1) := by decide +kernel
theorem d_MD_one_6 : decode prog_15_method_9_code 6 = .ok (.ladd, 1) := by decide +kernel
theorem d_MD_one_7 : decode prog_15_method_9_code 7 = .ok (.putfield 13, 3) := by decide +kernel
theorem d_MD_one_10 : decode prog_15_method_9_code 10 = .ok (.aload_n 0, 1) := by decide +kernel
theorem d_MD_one_11 : decode prog_15_method_9_code 11 = .ok (.getfield 26, 3) := by decide +kernel
theorem d_MD_one_14 : decode prog_15_method_9_code 14 = .ok (.aload_n 0, 1) := by decide +kernel
theorem d_MD_one_15 : decode prog_15_method_9_code 15 = .ok (.dup, 1) := by decide +kernel
theorem d_MD_one_16 : decode prog_15_method_9_code 16 = .ok (.getfield 7, 3) := by decide +kernel
theorem d_MD_one_19 : decode prog_15_method_9_code 19 = .ok (.dup_x1, 1) := by decide +kernel
theorem d_MD_one_20 : decode prog_15_method_9_code 20 = .ok (.iconst 1, 1) := by decide +kernel
theorem d_MD_one_21 : decode prog_15_method_9_code 21 = .ok (.iadd, 1) := by decide +kernel
theorem d_MD_one_22 : decode prog_15_method_9_code 22 = .ok (.putfield 7, 3) := by decide +kernel
theorem d_MD_one_25 : decode prog_15_method_9_code 25 = .ok (.iload_n 1, 1) := by decide +kernel
theorem d_MD_one_26 : decode prog_15_method_9_code 26 = .ok (.i2b, 1) := by decide +kernel
theorem d_MD_one_27 : decode prog_15_method_9_code 27 = .ok (.bastore, 1) := by decide +kernel
theorem d_MD_one_28 : decode prog_15_method_9_code 28 = .ok (.aload_n 0, 1) := by decide +kernel
theorem d_MD_one_29 : decode prog_15_method_9_code 29 = .ok (.getfield 7, 3) := by decide +kernel
theorem d_MD_one_32 : decode prog_15_method_9_code 32 = .ok (.aload_n 0, 1) := by decide +kernel
theorem d_MD_one_33 : decode prog_15_method_9_code 33 = .ok (.getfield 23, 3) := by decide +kernel
theorem d_MD_one_36 : decode prog_15_method_9_code 36 = .ok (.if_icmp .ne 7, 3) := by decide +kernel
theorem d_MD_one_39 : decode prog_15_method_9_code 39 = .ok (.aload_n 0, 1) := by decide +kernel
theorem d_MD_one_40 : decode prog_15_method_9_code 40 = .ok (.invokevirtual 49, 3) := by decide +kernel
theorem d_MD_one_43 : decode prog_15_method_9_code 43 = .ok (.return_, 1) := by decide +kernel
def y_MS_put : MethodName := ⟨"PatchStoreModel$Sha256", "put", "([BI)V"⟩
abbrev c_MS_put : Cond := (Jvm.Cond.code ({ cls := "PatchStoreModel$Sha256", name := "put", desc := "([BI)V" } : Jvm.MethodName) prog_17_method_6_code (4 : Nat) (Option.none : Option Jvm.ClassFile.FieldType))
abbrev ws_MS_put : List Cond := c_MS_put :: xg_1
theorem d_MS_put_0 : decode prog_17_method_6_code 0 = .ok (.iconst 0, 1) := by decide +kernel
theorem d_MS_put_1 : decode prog_17_method_6_code 1 = .ok (.istore_n 3, 1) := by decide +kernel
theorem d_MS_put_2 : decode prog_17_method_6_code 2 = .ok (.iload_n 3, 1) := by decide +kernel
theorem d_MS_put_3 : decode prog_17_method_6_code 3 = .ok (.bipush 32, 2) := by decide +kernel
theorem d_MS_put_5 : decode prog_17_method_6_code 5 = .ok (.if_icmp .ge 33, 3) := by decide +kernel
theorem d_MS_put_8 : decode prog_17_method_6_code 8 = .ok (.aload_n 1, 1) := by decide +kernel
theorem d_MS_put_9 : decode prog_17_method_6_code 9 = .ok (.iload_n 2, 1) := by decide +kernel
theorem d_MS_put_10 : decode prog_17_method_6_code 10 = .ok (.iload_n 3, 1) := by decide +kernel
theorem d_MS_put_11 : decode prog_17_method_6_code 11 = .ok (.iadd, 1) := by decide +kernel
theorem d_MS_put_12 : decode prog_17_method_6_code 12 = .ok (.aload_n 0, 1) := by decide +kernel
theorem d_MS_put_13 : decode prog_17_method_6_code 13 = .ok (.getfield 7, 3) := by decide +kernel
theorem d_MS_put_16 : decode prog_17_method_6_code 16 = .ok (.iload_n 3, 1) := by decide +kernel
theorem d_MS_put_17 : decode prog_17_method_6_code 17 = .ok (.iconst 4, 1) := by decide +kernel
theorem d_MS_put_18 : decode prog_17_method_6_code 18 = .ok (.idiv, 1) := by decide +kernel
theorem d_MS_put_19 : decode prog_17_method_6_code 19 = .ok (.iaload, 1) := by decide +kernel
theorem d_MS_put_20 : decode prog_17_method_6_code 20 = .ok (.bipush 24, 2) := by decide +kernel
theorem d_MS_put_22 : decode prog_17_method_6_code 22 = .ok (.bipush 8, 2) := by decide +kernel
theorem d_MS_put_24 : decode prog_17_method_6_code 24 = .ok (.iload_n 3, 1) := by decide +kernel
theorem d_MS_put_25 : decode prog_17_method_6_code 25 = .ok (.iconst 4, 1) := by decide +kernel
theorem d_MS_put_26 : decode prog_17_method_6_code 26 = .ok (.irem, 1) := by decide +kernel
theorem d_MS_put_27 : decode prog_17_method_6_code 27 = .ok (.imul, 1) := by decide +kernel
theorem d_MS_put_28 : decode prog_17_method_6_code 28 = .ok (.isub, 1) := by decide +kernel
theorem d_MS_put_29 : decode prog_17_method_6_code 29 = .ok (.iushr, 1) := by decide +kernel
theorem d_MS_put_30 : decode prog_17_method_6_code 30 = .ok (.i2b, 1) := by decide +kernel
theorem d_MS_put_31 : decode prog_17_method_6_code 31 = .ok (.bastore, 1) := by decide +kernel
theorem d_MS_put_32 : decode prog_17_method_6_code 32 = .ok (.iinc 3 1, 3) := by decide +kernel
theorem d_MS_put_35 : decode prog_17_method_6_code 35 = .ok (.goto (-33), 3) := by decide +kernel
theorem d_MS_put_38 : decode prog_17_method_6_code 38 = .ok (.return_, 1) := by decide +kernel
set_option maxHeartbeats 4000000 in
set_option maxRecDepth 100000 in
/-- compress of the model -/
theorem m_MS_compress (l : Launch) (dC : Nat → ClassId) (dI : Nat → Nat → Nat) (cI cB cL cZ cR : ClassId) (h sm wd bl : Nat) (ms_size ms_block ms_gathered ms_filled ms_total ms_blocks : Value) (f w b : Nat → Int32) (sz : Nat) : Met l y_MS_compress ws_MS_compress ({ frames := 2, cells := 0, slots := 0, locals := 120 }) (xw_Px dC dI [(cI, .int), (cB, .byte), (cL, .long), (cZ, .boolean), (cR, .object "PatchStore$Repository")] [.ref h, .ref bl, .int 0] [(h, .inr (13, [.ref sm, .ref wd, ms_size, ms_block, ms_gathered, ms_filled, ms_total, ms_blocks])), (sm, .inl (cI, 8, .inl f)), (wd, .inl (cI, 64, .inl w)), (bl, .inl (cB, 64, .inl b))] sz) (va_Qv (fun _ : Nat → Int32 => True) (fun u t => xw_B dC dI [(cI, .int), (cB, .byte), (cL, .long), (cZ, .boolean), (cR, .object "PatchStore$Repository")] (va_A [(h, .inr (13, [.ref sm, .ref wd, ms_size, ms_block, ms_gathered, ms_filled, ms_total, ms_blocks])), (sm, .inl (cI, 8, .inl f)), (wd, .inl (cI, 64, .inl w)), (bl, .inl (cB, 64, .inl b))] sz) [(h, .inr (13, [.ref sm, .ref wd, ms_size, ms_block, ms_gathered, ms_filled, ms_total, ms_blocks])), (sm, .inl (cI, 8, .inl (sh_comp f b))), (wd, .inl (cI, 64, .inl u)), (bl, .inl (cB, 64, .inl b))] t) (va_A [(h, .inr (13, [.ref sm, .ref wd, ms_size, ms_block, ms_gathered, ms_filled, ms_total, ms_blocks])), (sm, .inl (cI, 8, .inl f)), (wd, .inl (cI, 64, .inl w)), (bl, .inl (cB, 64, .inl b))] sz)) 0 0 (va_A [(h, .inr (13, [.ref sm, .ref wd, ms_size, ms_block, ms_gathered, ms_filled, ms_total, ms_blocks])), (sm, .inl (cI, 8, .inl f)), (wd, .inl (cI, 64, .inl w)), (bl, .inl (cB, 64, .inl b))] sz) := by
  refine Met.ofW (cc := prog_17_method_5_code) (maxL := 16) (ret := none) (by decide) rfl ?_
  intro p e s m args below meth c s₁ B hml hv
  obtain ⟨rfl, hsz, hP, hK, hD0, hN, hTh⟩ := hv
  have hx := B.exec
  have hb := B.bytes
  have hr := B.returns
  have hts0 := atoms_spec (ws := ws_MS_compress) B.pre
  have hts : ∀ w ∈ xg_1, w.before _ s = true := fun w h => hts0 w (List.mem_cons_of_mem _ h)
  have hown : s.vm.findClass "PatchStoreModel$Sha256" = some m.cls := findClass_of_methodNamed B.named
  have hlocks := B.notSynchronized
  subst hsz
  have hD := hD0.self (sz := s.heap.size)
  generalize hAe : va_A [(h, .inr (13, [.ref sm, .ref wd, ms_size, ms_block, ms_gathered, ms_filled, ms_total, ms_blocks])), (sm, .inl (cI, 8, .inl f)), (wd, .inl (cI, 64, .inl w)), (bl, .inl (cB, 64, .inl b))] s.heap.size = A at hD hTh ⊢
  obtain ⟨t_START, hZ_START, hT_START⟩ := hTh.2.1
  obtain ⟨t_ROUND, hZ_ROUND, hT_ROUND⟩ := hTh.2.2.1
  obtain ⟨t_FIRST, hZ_FIRST, hT_FIRST⟩ := hTh.2.2.2.1
  obtain ⟨t_ROOTS, hZ_ROOTS, hT_ROOTS⟩ := hTh.2.2.2.2.1
  have hA : ∀ q : Nat, s.heap.size ≤ q → A q := fun q h => by rw [← hAe]; exact Or.inr h
  have hS : va_S A s.heap s.heap [] := va_S.rf
  have hl := lv_entry ([.ref h, .ref bl, .int 0]) (n := 16) (Nat.le_of_ble_eq_true rfl)
  rw [lg_entry_eq]
  generalize (lg_sl ([.ref h, .ref bl, .int 0]) ++ List.replicate (16 - (lg_sl ([.ref h, .ref bl, .int 0])).length) Slot.unset).toArray = ls at hl ⊢
  have hl : lv_has ls 16 [(0, .ref h), (1, .ref bl), (2, .int 0)] := hl
  generalize hQe : MQ _ _ _ _ _ _ _ = Q
  refine lv_aload_n hx hb d_MS_compress_0 rfl (lv_at hl 0 rfl) ?_
  refine lv_aload_n hx hb d_MS_compress_1 rfl (lv_at hl 1 rfl) ?_
  refine lv_iload_n hx hb d_MS_compress_2 rfl (lv_at hl 2 rfl) ?_
  have hPc := hP.sub (ws' := [(h, .inr (13, [.ref sm, .ref wd, ms_size, ms_block, ms_gathered, ms_filled, ms_total, ms_blocks])), (wd, .inl (cI, 64, .inl w)), (bl, .inl (cB, 64, .inl b))]) [0, 2, 3] rfl
  have hDc := hD.sub (ws' := [(h, .inr (13, [.ref sm, .ref wd, ms_size, ms_block, ms_gathered, ms_filled, ms_total, ms_blocks])), (wd, .inl (cI, 64, .inl w)), (bl, .inl (cB, 64, .inl b))]) [0, 2, 3] (by decide) rfl
  have hFc := va_free (wc := [(h, .inr (13, [.ref sm, .ref wd, ms_size, ms_block, ms_gathered, ms_filled, ms_total, ms_blocks])), (wd, .inl (cI, 64, .inl w)), (bl, .inl (cB, 64, .inl b))]) hD hS hA [0, 2, 3] rfl
  refine va_callv (va_runV (As := [.ref bl, .int 0]) (rest := []) ⟨hx, hb, hml, hown, hts⟩ (m_MS_spread l dC dI cI cB cL cZ cR h wd bl (.ref sm) (ms_size) (ms_block) (ms_gathered) (ms_filled) (ms_total) (ms_blocks) w b s.heap.size ) (cwV 2 hts (xg_V gw_1798 gw_1800 (xg_p 88 (q := (⟨"PatchStoreModel$Sha256", "spread", "([BI)V"⟩, 8)) (by decide +kernel)) gw_15 gw_1801) rfl rfl rfl (by decide +kernel) ⟨Nat.le_of_ble_eq_true rfl, Nat.le_of_ble_eq_true rfl⟩) ⟨xw_blindx, va_recv hK hPc (ci := 13) (q0 := 0) rfl rfl, fun U hU hW => ⟨rfl, by rw [hU], by rw [hU]; exact hPc, va_K.moved hW.alike hK, hDc.weaken (fun _ _ _ _ => trivial), xg_N.warm hW hN, by rw [hU]; exact ((hTh.kept (fun a h1 h2 => hS.2.1 a h1 h2)).narrow hFc).moved hW.alike⟩⟩ rfl rfl hl.1 rfl (lv_room (Nat.le_of_ble_eq_true rfl)) d_MS_compress_3 ⟨Nat.le_of_ble_eq_true rfl, Nat.le_of_ble_eq_true rfl⟩) hS (fun q _ h => hFc q h) hFc (fun w1 t H1 locs ht hvm hw hB hz1 hk1 hS => ?_)
  obtain ⟨hP1, hK1, hD1⟩ := hB
  rw [ht] at hP1
  obtain ⟨hP, hD⟩ := va_join (wr := [(sm, .inl (cI, 8, .inl f))]) (w1 := [(h, .inr (13, [.ref sm, .ref wd, ms_size, ms_block, ms_gathered, ms_filled, ms_total, ms_blocks])), (wd, .inl (cI, 64, .inl w1)), (bl, .inl (cB, 64, .inl b))]) hP hD [0, 2, 3] [1] rfl rfl (by decide) (by decide) hk1 hFc hP1 hD1
  generalize H1 = H at hP hS ⊢
  have hP : va_P (dC, dI) classes [(sm, .inl (cI, 8, .inl f)), (h, .inr (13, [.ref sm, .ref wd, ms_size, ms_block, ms_gathered, ms_filled, ms_total, ms_blocks])), (wd, .inl (cI, 64, .inl w1)), (bl, .inl (cB, 64, .inl b))] H := hP
  have hD : va_D A [(sm, .inl (cI, 8, .inl f)), (h, .inr (13, [.ref sm, .ref wd, ms_size, ms_block, ms_gathered, ms_filled, ms_total, ms_blocks])), (wd, .inl (cI, 64, .inl w1)), (bl, .inl (cB, 64, .inl b))] := hD
  have hw0 : ∀ j, j < 64 → w1 j = sh_wf b 64 j := hw
  refine lv_aload_n hx hb d_MS_compress_6 rfl (lv_at hl 0 rfl) ?_
  refine va_get (D := (dC, dI)) (ci := 13) (v := .ref sm) (C := R_MS) (T := F_MS) (N := 8) hx hb hts i_MS hown hK hP 1 rfl rfl 0 (by decide) (hts _ gw_1390) (fun _ h9 => h9) rfl d_MS_compress_7 ?_
  refine lv_iconst (v := 0) hx hb d_MS_compress_10 (by decide) ?_
  refine va_iald hx hb hK hP 0 0 rfl rfl (vp_in_nI (n := 0) (by omega) (by omega)) d_MS_compress_11 ?_
  rw [show (0 : Int32).toNatClampNeg = 0 from rfl]
  refine lv_istore_n (lv' := [(3, .int (f 0)), (0, .ref h), (1, .ref bl), (2, .int 0)]) hx hb d_MS_compress_12 rfl hl (by decide) rfl (fun ls hl => ?_)
  refine lv_aload_n hx hb d_MS_compress_13 rfl (lv_at hl 1 rfl) ?_
  refine va_get (D := (dC, dI)) (ci := 13) (v := .ref sm) (C := R_MS) (T := F_MS) (N := 8) hx hb hts i_MS hown hK hP 1 rfl rfl 0 (by decide) (hts _ gw_1390) (fun _ h9 => h9) rfl d_MS_compress_14 ?_
  refine lv_iconst (v := 1) hx hb d_MS_compress_17 (by decide) ?_
  refine va_iald hx hb hK hP 0 0 rfl rfl (vp_in_nI (n := 1) (by omega) (by omega)) d_MS_compress_18 ?_
  rw [show (1 : Int32).toNatClampNeg = 1 from rfl]
  refine lv_istore (lv' := [(4, .int (f 1)), (3, .int (f 0)), (0, .ref h), (1, .ref bl), (2, .int 0)]) hx hb d_MS_compress_19 hl (by decide) rfl (fun ls hl => ?_)
  refine lv_aload_n hx hb d_MS_compress_21 rfl (lv_at hl 2 rfl) ?_
  refine va_get (D := (dC, dI)) (ci := 13) (v := .ref sm) (C := R_MS) (T := F_MS) (N := 8) hx hb hts i_MS hown hK hP 1 rfl rfl 0 (by decide) (hts _ gw_1390) (fun _ h9 => h9) rfl d_MS_compress_22 ?_
  refine lv_iconst (v := 2) hx hb d_MS_compress_25 (by decide) ?_
  refine va_iald hx hb hK hP 0 0 rfl rfl (vp_in_nI (n := 2) (by omega) (by omega)) d_MS_compress_26 ?_
  rw [show (2 : Int32).toNatClampNeg = 2 from rfl]
  refine lv_istore (lv' := [(5, .int (f 2)), (4, .int (f 1)), (3, .int (f 0)), (0, .ref h), (1, .ref bl), (2, .int 0)]) hx hb d_MS_compress_27 hl (by decide) rfl (fun ls hl => ?_)
  refine lv_aload_n hx hb d_MS_compress_29 rfl (lv_at hl 3 rfl) ?_
  refine va_get (D := (dC, dI)) (ci := 13) (v := .ref sm) (C := R_MS) (T := F_MS) (N := 8) hx hb hts i_MS hown hK hP 1 rfl rfl 0 (by decide) (hts _ gw_1390) (fun _ h9 => h9) rfl d_MS_compress_30 ?_
  refine lv_iconst (v := 3) hx hb d_MS_compress_33 (by decide) ?_
  refine va_iald hx hb hK hP 0 0 rfl rfl (vp_in_nI (n := 3) (by omega) (by omega)) d_MS_compress_34 ?_
  rw [show (3 : Int32).toNatClampNeg = 3 from rfl]
  refine lv_istore (lv' := [(6, .int (f 3)), (5, .int (f 2)), (4, .int (f 1)), (3, .int (f 0)), (0, .ref h), (1, .ref bl), (2, .int 0)]) hx hb d_MS_compress_35 hl (by decide) rfl (fun ls hl => ?_)
  refine lv_aload_n hx hb d_MS_compress_37 rfl (lv_at hl 4 rfl) ?_
  refine va_get (D := (dC, dI)) (ci := 13) (v := .ref sm) (C := R_MS) (T := F_MS) (N := 8) hx hb hts i_MS hown hK hP 1 rfl rfl 0 (by decide) (hts _ gw_1390) (fun _ h9 => h9) rfl d_MS_compress_38 ?_
  refine lv_iconst (v := 4) hx hb d_MS_compress_41 (by decide) ?_
  refine va_iald hx hb hK hP 0 0 rfl rfl (vp_in_nI (n := 4) (by omega) (by omega)) d_MS_compress_42 ?_
  rw [show (4 : Int32).toNatClampNeg = 4 from rfl]
  refine lv_istore (lv' := [(7, .int (f 4)), (6, .int (f 3)), (5, .int (f 2)), (4, .int (f 1)), (3, .int (f 0)), (0, .ref h), (1, .ref bl), (2, .int 0)]) hx hb d_MS_compress_43 hl (by decide) rfl (fun ls hl => ?_)
  refine lv_aload_n hx hb d_MS_compress_45 rfl (lv_at hl 5 rfl) ?_
  refine va_get (D := (dC, dI)) (ci := 13) (v := .ref sm) (C := R_MS) (T := F_MS) (N := 8) hx hb hts i_MS hown hK hP 1 rfl rfl 0 (by decide) (hts _ gw_1390) (fun _ h9 => h9) rfl d_MS_compress_46 ?_
  refine lv_iconst (v := 5) hx hb d_MS_compress_49 (by decide) ?_
  refine va_iald hx hb hK hP 0 0 rfl rfl (vp_in_nI (n := 5) (by omega) (by omega)) d_MS_compress_50 ?_
  rw [show (5 : Int32).toNatClampNeg = 5 from rfl]
  refine lv_istore (lv' := [(8, .int (f 5)), (7, .int (f 4)), (6, .int (f 3)), (5, .int (f 2)), (4, .int (f 1)), (3, .int (f 0)), (0, .ref h), (1, .ref bl), (2, .int 0)]) hx hb d_MS_compress_51 hl (by decide) rfl (fun ls hl => ?_)
  refine lv_aload_n hx hb d_MS_compress_53 rfl (lv_at hl 6 rfl) ?_
  refine va_get (D := (dC, dI)) (ci := 13) (v := .ref sm) (C := R_MS) (T := F_MS) (N := 8) hx hb hts i_MS hown hK hP 1 rfl rfl 0 (by decide) (hts _ gw_1390) (fun _ h9 => h9) rfl d_MS_compress_54 ?_
  refine lv_bipush (v := 6) hx hb d_MS_compress_57 (by decide) ?_
  refine va_iald hx hb hK hP 0 0 rfl rfl (vp_in_nI (n := 6) (by omega) (by omega)) d_MS_compress_59 ?_
  rw [show (6 : Int32).toNatClampNeg = 6 from rfl]
  refine lv_istore (lv' := [(9, .int (f 6)), (8, .int (f 5)), (7, .int (f 4)), (6, .int (f 3)), (5, .int (f 2)), (4, .int (f 1)), (3, .int (f 0)), (0, .ref h), (1, .ref bl), (2, .int 0)]) hx hb d_MS_compress_60 hl (by decide) rfl (fun ls hl => ?_)
  refine lv_aload_n hx hb d_MS_compress_62 rfl (lv_at hl 7 rfl) ?_
  refine va_get (D := (dC, dI)) (ci := 13) (v := .ref sm) (C := R_MS) (T := F_MS) (N := 8) hx hb hts i_MS hown hK hP 1 rfl rfl 0 (by decide) (hts _ gw_1390) (fun _ h9 => h9) rfl d_MS_compress_63 ?_
  refine lv_bipush (v := 7) hx hb d_MS_compress_66 (by decide) ?_
  refine va_iald hx hb hK hP 0 0 rfl rfl (vp_in_nI (n := 7) (by omega) (by omega)) d_MS_compress_68 ?_
  rw [show (7 : Int32).toNatClampNeg = 7 from rfl]
  refine lv_istore (lv' := [(10, .int (f 7)), (9, .int (f 6)), (8, .int (f 5)), (7, .int (f 4)), (6, .int (f 3)), (5, .int (f 2)), (4, .int (f 1)), (3, .int (f 0)), (0, .ref h), (1, .ref bl), (2, .int 0)]) hx hb d_MS_compress_69 hl (by decide) rfl (fun ls hl => ?_)
  refine lv_iconst (v := 0) hx hb d_MS_compress_71 (by decide) ?_
  refine lv_istore (lv' := [(11, .int 0), (10, .int (f 7)), (9, .int (f 6)), (8, .int (f 5)), (7, .int (f 4)), (6, .int (f 3)), (5, .int (f 2)), (4, .int (f 1)), (3, .int (f 0)), (0, .ref h), (1, .ref bl), (2, .int 0)]) hx hb d_MS_compress_72 hl (by decide) rfl (fun ls hl => ?_)
  have loop_74 : ∀ (n : Nat) (k : Nat) (q1 : Int32) (q2 : Int32) (q3 : Int32) (q4 : Int32) (q5 : Int32) (q6 : Int32) (q7 : Int32) (q8 : Int32) (H : Heap) (locs : List Loc) (ls : Array Slot), 64 - k < n → (k ≤ 64) → (sh_rounds w1 k (sh_in f) = (q1, q2, q3, q4, q5, q6, q7, q8)) → va_P (dC, dI) classes [(h, .inr (13, [.ref sm, .ref wd, ms_size, ms_block, ms_gathered, ms_filled, ms_total, ms_blocks])), (sm, .inl (cI, 8, .inl f)), (wd, .inl (cI, 64, .inl w1)), (bl, .inl (cB, 64, .inl b))] H → va_D A [(h, .inr (13, [.ref sm, .ref wd, ms_size, ms_block, ms_gathered, ms_filled, ms_total, ms_blocks])), (sm, .inl (cI, 8, .inl f)), (wd, .inl (cI, 64, .inl w1)), (bl, .inl (cB, 64, .inl b))] → va_S A s.heap H locs → lv_has ls 16 [(0, .ref h), (3, .int q1), (4, .int q2), (5, .int q3), (6, .int q4), (7, .int q5), (8, .int q6), (9, .int q7), (10, .int q8), (11, .int (nI k))] → W p l e (headSpec ws_MS_compress ({ frames := 2, cells := 0, slots := 0, locals := 120 })).room s m ([.ref h, .ref bl, .int 0] : List Value).toArray below meth c H locs 0 0 Q (F0 m 74 ls []) := by
    intro n
    induction n with
    | zero => intro k q1 q2 q3 q4 q5 q6 q7 q8 H locs ls hm; exact absurd hm (Nat.not_lt_zero _)
    | succ n ih_74 =>
      intro k q1 q2 q3 q4 q5 q6 q7 q8 H locs ls hm hk hq hP hD hS hl
      refine lv_iload hx hb d_MS_compress_74 (lv_at hl 9 rfl) ?_
      refine lv_bipush (v := 64) hx hb d_MS_compress_76 (by decide) ?_
      refine lv_icmp_ge (tgt := 229) hx hb d_MS_compress_78 (by decide) (fun c_78 => ?_) (fun c_78 => ?_)
      · have hk9 : k = 64 := by have := (nI_leI (a := 64) (b := k) (by omega) (by omega)).mp c_78; omega
        subst hk9
        refine lv_aload_n hx hb d_MS_compress_229 rfl (lv_at hl 0 rfl) ?_
        refine va_get (D := (dC, dI)) (ci := 13) (v := .ref sm) (C := R_MS) (T := F_MS) (N := 8) hx hb hts i_MS hown hK hP 0 rfl rfl 0 (by decide) (hts _ gw_1390) (fun _ h9 => h9) rfl d_MS_compress_230 ?_
        refine lv_iconst (v := 0) hx hb d_MS_compress_233 (by decide) ?_
        refine lv_dup2_11 hx hb d_MS_compress_234 rfl rfl ?_
        refine va_iald hx hb hK hP 1 0 rfl rfl (vp_in_nI (n := 0) (by omega) (by omega)) d_MS_compress_235 ?_
        rw [show (0 : Int32).toNatClampNeg = 0 from rfl]
        refine lv_iload_n hx hb d_MS_compress_236 rfl (lv_at hl 1 rfl) ?_
        refine lv_iadd hx hb d_MS_compress_237 ?_
        refine va_iast hx hb hK hP hD hS 1 0 rfl rfl (vp_in_nI (n := 0) (by omega) (by omega)) d_MS_compress_238 (fun H locs hP hD hS => ?_)
        rw [show (0 : Int32).toNatClampNeg = 0 from rfl] at hP hD
        have hP : va_P (dC, dI) classes [(h, .inr (13, [.ref sm, .ref wd, ms_size, ms_block, ms_gathered, ms_filled, ms_total, ms_blocks])), (sm, .inl (cI, 8, .inl (upd f 0 ((f 0) + q1)))), (wd, .inl (cI, 64, .inl w1)), (bl, .inl (cB, 64, .inl b))] H := hP
        have hD : va_D A [(h, .inr (13, [.ref sm, .ref wd, ms_size, ms_block, ms_gathered, ms_filled, ms_total, ms_blocks])), (sm, .inl (cI, 8, .inl (upd f 0 ((f 0) + q1)))), (wd, .inl (cI, 64, .inl w1)), (bl, .inl (cB, 64, .inl b))] := hD
        refine lv_aload_n hx hb d_MS_compress_239 rfl (lv_at hl 0 rfl) ?_
        refine va_get (D := (dC, dI)) (ci := 13) (v := .ref sm) (C := R_MS) (T := F_MS) (N := 8) hx hb hts i_MS hown hK hP 0 rfl rfl 0 (by decide) (hts _ gw_1390) (fun _ h9 => h9) rfl d_MS_compress_240 ?_
        refine lv_iconst (v := 1) hx hb d_MS_compress_243 (by decide) ?_
        refine lv_dup2_11 hx hb d_MS_compress_244 rfl rfl ?_
        refine va_iald hx hb hK hP 1 0 rfl rfl (vp_in_nI (n := 1) (by omega) (by omega)) d_MS_compress_245 ?_
        rw [show (1 : Int32).toNatClampNeg = 1 from rfl]
        refine lv_iload hx hb d_MS_compress_246 (lv_at hl 2 rfl) ?_
        refine lv_iadd hx hb d_MS_compress_248 ?_
        refine va_iast hx hb hK hP hD hS 1 0 rfl rfl (vp_in_nI (n := 1) (by omega) (by omega)) d_MS_compress_249 (fun H locs hP hD hS => ?_)
        rw [show (1 : Int32).toNatClampNeg = 1 from rfl] at hP hD
        have hP : va_P (dC, dI) classes [(h, .inr (13, [.ref sm, .ref wd, ms_size, ms_block, ms_gathered, ms_filled, ms_total, ms_blocks])), (sm, .inl (cI, 8, .inl (upd (upd f 0 ((f 0) + q1)) 1 (((upd f 0 ((f 0) + q1)) 1) + q2)))), (wd, .inl (cI, 64, .inl w1)), (bl, .inl (cB, 64, .inl b))] H := hP
        have hD : va_D A [(h, .inr (13, [.ref sm, .ref wd, ms_size, ms_block, ms_gathered, ms_filled, ms_total, ms_blocks])), (sm, .inl (cI, 8, .inl (upd (upd f 0 ((f 0) + q1)) 1 (((upd f 0 ((f 0) + q1)) 1) + q2)))), (wd, .inl (cI, 64, .inl w1)), (bl, .inl (cB, 64, .inl b))] := hD
        refine lv_aload_n hx hb d_MS_compress_250 rfl (lv_at hl 0 rfl) ?_
        refine va_get (D := (dC, dI)) (ci := 13) (v := .ref sm) (C := R_MS) (T := F_MS) (N := 8) hx hb hts i_MS hown hK hP 0 rfl rfl 0 (by decide) (hts _ gw_1390) (fun _ h9 => h9) rfl d_MS_compress_251 ?_
        refine lv_iconst (v := 2) hx hb d_MS_compress_254 (by decide) ?_
        refine lv_dup2_11 hx hb d_MS_compress_255 rfl rfl ?_
        refine va_iald hx hb hK hP 1 0 rfl rfl (vp_in_nI (n := 2) (by omega) (by omega)) d_MS_compress_256 ?_
        rw [show (2 : Int32).toNatClampNeg = 2 from rfl]
        refine lv_iload hx hb d_MS_compress_257 (lv_at hl 3 rfl) ?_
        refine lv_iadd hx hb d_MS_compress_259 ?_
        refine va_iast hx hb hK hP hD hS 1 0 rfl rfl (vp_in_nI (n := 2) (by omega) (by omega)) d_MS_compress_260 (fun H locs hP hD hS => ?_)
        rw [show (2 : Int32).toNatClampNeg = 2 from rfl] at hP hD
        have hP : va_P (dC, dI) classes [(h, .inr (13, [.ref sm, .ref wd, ms_size, ms_block, ms_gathered, ms_filled, ms_total, ms_blocks])), (sm, .inl (cI, 8, .inl (upd (upd (upd f 0 ((f 0) + q1)) 1 (((upd f 0 ((f 0) + q1)) 1) + q2)) 2 (((upd (upd f 0 ((f 0) + q1)) 1 (((upd f 0 ((f 0) + q1)) 1) + q2)) 2) + q3)))), (wd, .inl (cI, 64, .inl w1)), (bl, .inl (cB, 64, .inl b))] H := hP
        have hD : va_D A [(h, .inr (13, [.ref sm, .ref wd, ms_size, ms_block, ms_gathered, ms_filled, ms_total, ms_blocks])), (sm, .inl (cI, 8, .inl (upd (upd (upd f 0 ((f 0) + q1)) 1 (((upd f 0 ((f 0) + q1)) 1) + q2)) 2 (((upd (upd f 0 ((f 0) + q1)) 1 (((upd f 0 ((f 0) + q1)) 1) + q2)) 2) + q3)))), (wd, .inl (cI, 64, .inl w1)), (bl, .inl (cB, 64, .inl b))] := hD
        refine lv_aload_n hx hb d_MS_compress_261 rfl (lv_at hl 0 rfl) ?_
        refine va_get (D := (dC, dI)) (ci := 13) (v := .ref sm) (C := R_MS) (T := F_MS) (N := 8) hx hb hts i_MS hown hK hP 0 rfl rfl 0 (by decide) (hts _ gw_1390) (fun _ h9 => h9) rfl d_MS_compress_262 ?_
        refine lv_iconst (v := 3) hx hb d_MS_compress_265 (by decide) ?_
        refine lv_dup2_11 hx hb d_MS_compress_266 rfl rfl ?_
        refine va_iald hx hb hK hP 1 0 rfl rfl (vp_in_nI (n := 3) (by omega) (by omega)) d_MS_compress_267 ?_
        rw [show (3 : Int32).toNatClampNeg = 3 from rfl]
        refine lv_iload hx hb d_MS_compress_268 (lv_at hl 4 rfl) ?_
        refine lv_iadd hx hb d_MS_compress_270 ?_
        refine va_iast hx hb hK hP hD hS 1 0 rfl rfl (vp_in_nI (n := 3) (by omega) (by omega)) d_MS_compress_271 (fun H locs hP hD hS => ?_)
        rw [show (3 : Int32).toNatClampNeg = 3 from rfl] at hP hD
        have hP : va_P (dC, dI) classes [(h, .inr (13, [.ref sm, .ref wd, ms_size, ms_block, ms_gathered, ms_filled, ms_total, ms_blocks])), (sm, .inl (cI, 8, .inl (upd (upd (upd (upd f 0 ((f 0) + q1)) 1 (((upd f 0 ((f 0) + q1)) 1) + q2)) 2 (((upd (upd f 0 ((f 0) + q1)) 1 (((upd f 0 ((f 0) + q1)) 1) + q2)) 2) + q3)) 3 (((upd (upd (upd f 0 ((f 0) + q1)) 1 (((upd f 0 ((f 0) + q1)) 1) + q2)) 2 (((upd (upd f 0 ((f 0) + q1)) 1 (((upd f 0 ((f 0) + q1)) 1) + q2)) 2) + q3)) 3) + q4)))), (wd, .inl (cI, 64, .inl w1)), (bl, .inl (cB, 64, .inl b))] H := hP
        have hD : va_D A [(h, .inr (13, [.ref sm, .ref wd, ms_size, ms_block, ms_gathered, ms_filled, ms_total, ms_blocks])), (sm, .inl (cI, 8, .inl (upd (upd (upd (upd f 0 ((f 0) + q1)) 1 (((upd f 0 ((f 0) + q1)) 1) + q2)) 2 (((upd (upd f 0 ((f 0) + q1)) 1 (((upd f 0 ((f 0) + q1)) 1) + q2)) 2) + q3)) 3 (((upd (upd (upd f 0 ((f 0) + q1)) 1 (((upd f 0 ((f 0) + q1)) 1) + q2)) 2 (((upd (upd f 0 ((f 0) + q1)) 1 (((upd f 0 ((f 0) + q1)) 1) + q2)) 2) + q3)) 3) + q4)))), (wd, .inl (cI, 64, .inl w1)), (bl, .inl (cB, 64, .inl b))] := hD
        refine lv_aload_n hx hb d_MS_compress_272 rfl (lv_at hl 0 rfl) ?_
        refine va_get (D := (dC, dI)) (ci := 13) (v := .ref sm) (C := R_MS) (T := F_MS) (N := 8) hx hb hts i_MS hown hK hP 0 rfl rfl 0 (by decide) (hts _ gw_1390) (fun _ h9 => h9) rfl d_MS_compress_273 ?_
        refine lv_iconst (v := 4) hx hb d_MS_compress_276 (by decide) ?_
        refine lv_dup2_11 hx hb d_MS_compress_277 rfl rfl ?_
        refine va_iald hx hb hK hP 1 0 rfl rfl (vp_in_nI (n := 4) (by omega) (by omega)) d_MS_compress_278 ?_
        rw [show (4 : Int32).toNatClampNeg = 4 from rfl]
        refine lv_iload hx hb d_MS_compress_279 (lv_at hl 5 rfl) ?_
        refine lv_iadd hx hb d_MS_compress_281 ?_
        refine va_iast hx hb hK hP hD hS 1 0 rfl rfl (vp_in_nI (n := 4) (by omega) (by omega)) d_MS_compress_282 (fun H locs hP hD hS => ?_)
        rw [show (4 : Int32).toNatClampNeg = 4 from rfl] at hP hD
        have hP : va_P (dC, dI) classes [(h, .inr (13, [.ref sm, .ref wd, ms_size, ms_block, ms_gathered, ms_filled, ms_total, ms_blocks])), (sm, .inl (cI, 8, .inl (upd (upd (upd (upd (upd f 0 ((f 0) + q1)) 1 (((upd f 0 ((f 0) + q1)) 1) + q2)) 2 (((upd (upd f 0 ((f 0) + q1)) 1 (((upd f 0 ((f 0) + q1)) 1) + q2)) 2) + q3)) 3 (((upd (upd (upd f 0 ((f 0) + q1)) 1 (((upd f 0 ((f 0) + q1)) 1) + q2)) 2 (((upd (upd f 0 ((f 0) + q1)) 1 (((upd f 0 ((f 0) + q1)) 1) + q2)) 2) + q3)) 3) + q4)) 4 (((upd (upd (upd (upd f 0 ((f 0) + q1)) 1 (((upd f 0 ((f 0) + q1)) 1) + q2)) 2 (((upd (upd f 0 ((f 0) + q1)) 1 (((upd f 0 ((f 0) + q1)) 1) + q2)) 2) + q3)) 3 (((upd (upd (upd f 0 ((f 0) + q1)) 1 (((upd f 0 ((f 0) + q1)) 1) + q2)) 2 (((upd (upd f 0 ((f 0) + q1)) 1 (((upd f 0 ((f 0) + q1)) 1) + q2)) 2) + q3)) 3) + q4)) 4) + q5)))), (wd, .inl (cI, 64, .inl w1)), (bl, .inl (cB, 64, .inl b))] H := hP
        have hD : va_D A [(h, .inr (13, [.ref sm, .ref wd, ms_size, ms_block, ms_gathered, ms_filled, ms_total, ms_blocks])), (sm, .inl (cI, 8, .inl (upd (upd (upd (upd (upd f 0 ((f 0) + q1)) 1 (((upd f 0 ((f 0) + q1)) 1) + q2)) 2 (((upd (upd f 0 ((f 0) + q1)) 1 (((upd f 0 ((f 0) + q1)) 1) + q2)) 2) + q3)) 3 (((upd (upd (upd f 0 ((f 0) + q1)) 1 (((upd f 0 ((f 0) + q1)) 1) + q2)) 2 (((upd (upd f 0 ((f 0) + q1)) 1 (((upd f 0 ((f 0) + q1)) 1) + q2)) 2) + q3)) 3) + q4)) 4 (((upd (upd (upd (upd f 0 ((f 0) + q1)) 1 (((upd f 0 ((f 0) + q1)) 1) + q2)) 2 (((upd (upd f 0 ((f 0) + q1)) 1 (((upd f 0 ((f 0) + q1)) 1) + q2)) 2) + q3)) 3 (((upd (upd (upd f 0 ((f 0) + q1)) 1 (((upd f 0 ((f 0) + q1)) 1) + q2)) 2 (((upd (upd f 0 ((f 0) + q1)) 1 (((upd f 0 ((f 0) + q1)) 1) + q2)) 2) + q3)) 3) + q4)) 4) + q5)))), (wd, .inl (cI, 64, .inl w1)), (bl, .inl (cB, 64, .inl b))] := hD
        refine lv_aload_n hx hb d_MS_compress_283 rfl (lv_at hl 0 rfl) ?_
        refine va_get (D := (dC, dI)) (ci := 13) (v := .ref sm) (C := R_MS) (T := F_MS) (N := 8) hx hb hts i_MS hown hK hP 0 rfl rfl 0 (by decide) (hts _ gw_1390) (fun _ h9 => h9) rfl d_MS_compress_284 ?_
        refine lv_iconst (v := 5) hx hb d_MS_compress_287 (by decide) ?_
        refine lv_dup2_11 hx hb d_MS_compress_288 rfl rfl ?_
        refine va_iald hx hb hK hP 1 0 rfl rfl (vp_in_nI (n := 5) (by omega) (by omega)) d_MS_compress_289 ?_
        rw [show (5 : Int32).toNatClampNeg = 5 from rfl]
        refine lv_iload hx hb d_MS_compress_290 (lv_at hl 6 rfl) ?_
        refine lv_iadd hx hb d_MS_compress_292 ?_
        refine va_iast hx hb hK hP hD hS 1 0 rfl rfl (vp_in_nI (n := 5) (by omega) (by omega)) d_MS_compress_293 (fun H locs hP hD hS => ?_)
        rw [show (5 : Int32).toNatClampNeg = 5 from rfl] at hP hD
        have hP : va_P (dC, dI) classes [(h, .inr (13, [.ref sm, .ref wd, ms_size, ms_block, ms_gathered, ms_filled, ms_total, ms_blocks])), (sm, .inl (cI, 8, .inl (upd (upd (upd (upd (upd (upd f 0 ((f 0) + q1)) 1 (((upd f 0 ((f 0) + q1)) 1) + q2)) 2 (((upd (upd f 0 ((f 0) + q1)) 1 (((upd f 0 ((f 0) + q1)) 1) + q2)) 2) + q3)) 3 (((upd (upd (upd f 0 ((f 0) + q1)) 1 (((upd f 0 ((f 0) + q1)) 1) + q2)) 2 (((upd (upd f 0 ((f 0) + q1)) 1 (((upd f 0 ((f 0) + q1)) 1) + q2)) 2) + q3)) 3) + q4)) 4 (((upd (upd (upd (upd f 0 ((f 0) + q1)) 1 (((upd f 0 ((f 0) + q1)) 1) + q2)) 2 (((upd (upd f 0 ((f 0) + q1)) 1 (((upd f 0 ((f 0) + q1)) 1) + q2)) 2) + q3)) 3 (((upd (upd (upd f 0 ((f 0) + q1)) 1 (((upd f 0 ((f 0) + q1)) 1) + q2)) 2 (((upd (upd f 0 ((f 0) + q1)) 1 (((upd f 0 ((f 0) + q1)) 1) + q2)) 2) + q3)) 3) + q4)) 4) + q5)) 5 (((upd (upd (upd (upd (upd f 0 ((f 0) + q1)) 1 (((upd f 0 ((f 0) + q1)) 1) + q2)) 2 (((upd (upd f 0 ((f 0) + q1)) 1 (((upd f 0 ((f 0) + q1)) 1) + q2)) 2) + q3)) 3 (((upd (upd (upd f 0 ((f 0) + q1)) 1 (((upd f 0 ((f 0) + q1)) 1) + q2)) 2 (((upd (upd f 0 ((f 0) + q1)) 1 (((upd f 0 ((f 0) + q1)) 1) + q2)) 2) + q3)) 3) + q4)) 4 (((upd (upd (upd (upd f 0 ((f 0) + q1)) 1 (((upd f 0 ((f 0) + q1)) 1) + q2)) 2 (((upd (upd f 0 ((f 0) + q1)) 1 (((upd f 0 ((f 0) + q1)) 1) + q2)) 2) + q3)) 3 (((upd (upd (upd f 0 ((f 0) + q1)) 1 (((upd f 0 ((f 0) + q1)) 1) + q2)) 2 (((upd (upd f 0 ((f 0) + q1)) 1 (((upd f 0 ((f 0) + q1)) 1) + q2)) 2) + q3)) 3) + q4)) 4) + q5)) 5) + q6)))), (wd, .inl (cI, 64, .inl w1)), (bl, .inl (cB, 64, .inl b))] H := hP
        have hD : va_D A [(h, .inr (13, [.ref sm, .ref wd, ms_size, ms_block, ms_gathered, ms_filled, ms_total, ms_blocks])), (sm, .inl (cI, 8, .inl (upd (upd (upd (upd (upd (upd f 0 ((f 0) + q1)) 1 (((upd f 0 ((f 0) + q1)) 1) + q2)) 2 (((upd (upd f 0 ((f 0) + q1)) 1 (((upd f 0 ((f 0) + q1)) 1) + q2)) 2) + q3)) 3 (((upd (upd (upd f 0 ((f 0) + q1)) 1 (((upd f 0 ((f 0) + q1)) 1) + q2)) 2 (((upd (upd f 0 ((f 0) + q1)) 1 (((upd f 0 ((f 0) + q1)) 1) + q2)) 2) + q3)) 3) + q4)) 4 (((upd (upd (upd (upd f 0 ((f 0) + q1)) 1 (((upd f 0 ((f 0) + q1)) 1) + q2)) 2 (((upd (upd f 0 ((f 0) + q1)) 1 (((upd f 0 ((f 0) + q1)) 1) + q2)) 2) + q3)) 3 (((upd (upd (upd f 0 ((f 0) + q1)) 1 (((upd f 0 ((f 0) + q1)) 1) + q2)) 2 (((upd (upd f 0 ((f 0) + q1)) 1 (((upd f 0 ((f 0) + q1)) 1) + q2)) 2) + q3)) 3) + q4)) 4) + q5)) 5 (((upd (upd (upd (upd (upd f 0 ((f 0) + q1)) 1 (((upd f 0 ((f 0) + q1)) 1) + q2)) 2 (((upd (upd f 0 ((f 0) + q1)) 1 (((upd f 0 ((f 0) + q1)) 1) + q2)) 2) + q3)) 3 (((upd (upd (upd f 0 ((f 0) + q1)) 1 (((upd f 0 ((f 0) + q1)) 1) + q2)) 2 (((upd (upd f 0 ((f 0) + q1)) 1 (((upd f 0 ((f 0) + q1)) 1) + q2)) 2) + q3)) 3) + q4)) 4 (((upd (upd (upd (upd f 0 ((f 0) + q1)) 1 (((upd f 0 ((f 0) + q1)) 1) + q2)) 2 (((upd (upd f 0 ((f 0) + q1)) 1 (((upd f 0 ((f 0) + q1)) 1) + q2)) 2) + q3)) 3 (((upd (upd (upd f 0 ((f 0) + q1)) 1 (((upd f 0 ((f 0) + q1)) 1) + q2)) 2 (((upd (upd f 0 ((f 0) + q1)) 1 (((upd f 0 ((f 0) + q1)) 1) + q2)) 2) + q3)) 3) + q4)) 4) + q5)) 5) + q6)))), (wd, .inl (cI, 64, .inl w1)), (bl, .inl (cB, 64, .inl b))] := hD
        refine lv_aload_n hx hb d_MS_compress_294 rfl (lv_at hl 0 rfl) ?_
        refine va_get (D := (dC, dI)) (ci := 13) (v := .ref sm) (C := R_MS) (T := F_MS) (N := 8) hx hb hts i_MS hown hK hP 0 rfl rfl 0 (by decide) (hts _ gw_1390) (fun _ h9 => h9) rfl d_MS_compress_295 ?_
        refine lv_bipush (v := 6) hx hb d_MS_compress_298 (by decide) ?_
        refine lv_dup2_11 hx hb d_MS_compress_300 rfl rfl ?_
        refine va_iald hx hb hK hP 1 0 rfl rfl (vp_in_nI (n := 6) (by omega) (by omega)) d_MS_compress_301 ?_
        rw [show (6 : Int32).toNatClampNeg = 6 from rfl]
        refine lv_iload hx hb d_MS_compress_302 (lv_at hl 7 rfl) ?_
        refine lv_iadd hx hb d_MS_compress_304 ?_
        refine va_iast hx hb hK hP hD hS 1 0 rfl rfl (vp_in_nI (n := 6) (by omega) (by omega)) d_MS_compress_305 (fun H locs hP hD hS => ?_)
        rw [show (6 : Int32).toNatClampNeg = 6 from rfl] at hP hD
        have hP : va_P (dC, dI) classes [(h, .inr (13, [.ref sm, .ref wd, ms_size, ms_block, ms_gathered, ms_filled, ms_total, ms_blocks])), (sm, .inl (cI, 8, .inl (upd (upd (upd (upd (upd (upd (upd f 0 ((f 0) + q1)) 1 (((upd f 0 ((f 0) + q1)) 1) + q2)) 2 (((upd (upd f 0 ((f 0) + q1)) 1 (((upd f 0 ((f 0) + q1)) 1) + q2)) 2) + q3)) 3 (((upd (upd (upd f 0 ((f 0) + q1)) 1 (((upd f 0 ((f 0) + q1)) 1) + q2)) 2 (((upd (upd f 0 ((f 0) + q1)) 1 (((upd f 0 ((f 0) + q1)) 1) + q2)) 2) + q3)) 3) + q4)) 4 (((upd (upd (upd (upd f 0 ((f 0) + q1)) 1 (((upd f 0 ((f 0) + q1)) 1) + q2)) 2 (((upd (upd f 0 ((f 0) + q1)) 1 (((upd f 0 ((f 0) + q1)) 1) + q2)) 2) + q3)) 3 (((upd (upd (upd f 0 ((f 0) + q1)) 1 (((upd f 0 ((f 0) + q1)) 1) + q2)) 2 (((upd (upd f 0 ((f 0) + q1)) 1 (((upd f 0 ((f 0) + q1)) 1) + q2)) 2) + q3)) 3) + q4)) 4) + q5)) 5 (((upd (upd (upd (upd (upd f 0 ((f 0) + q1)) 1 (((upd f 0 ((f 0) + q1)) 1) + q2)) 2 (((upd (upd f 0 ((f 0) + q1)) 1 (((upd f 0 ((f 0) + q1)) 1) + q2)) 2) + q3)) 3 (((upd (upd (upd f 0 ((f 0) + q1)) 1 (((upd f 0 ((f 0) + q1)) 1) + q2)) 2 (((upd (upd f 0 ((f 0) + q1)) 1 (((upd f 0 ((f 0) + q1)) 1) + q2)) 2) + q3)) 3) + q4)) 4 (((upd (upd (upd (upd f 0 ((f 0) + q1)) 1 (((upd f 0 ((f 0) + q1)) 1) + q2)) 2 (((upd (upd f 0 ((f 0) + q1)) 1 (((upd f 0 ((f 0) + q1)) 1) + q2)) 2) + q3)) 3 (((upd (upd (upd f 0 ((f 0) + q1)) 1 (((upd f 0 ((f 0) + q1)) 1) + q2)) 2 (((upd (upd f 0 ((f 0) + q1)) 1 (((upd f 0 ((f 0) + q1)) 1) + q2)) 2) + q3)) 3) + q4)) 4) + q5)) 5) + q6)) 6 (((upd (upd (upd (upd (upd (upd f 0 ((f 0) + q1)) 1 (((upd f 0 ((f 0) + q1)) 1) + q2)) 2 (((upd (upd f 0 ((f 0) + q1)) 1 (((upd f 0 ((f 0) + q1)) 1) + q2)) 2) + q3)) 3 (((upd (upd (upd f 0 ((f 0) + q1)) 1 (((upd f 0 ((f 0) + q1)) 1) + q2)) 2 (((upd (upd f 0 ((f 0) + q1)) 1 (((upd f 0 ((f 0) + q1)) 1) + q2)) 2) + q3)) 3) + q4)) 4 (((upd (upd (upd (upd f 0 ((f 0) + q1)) 1 (((upd f 0 ((f 0) + q1)) 1) + q2)) 2 (((upd (upd f 0 ((f 0) + q1)) 1 (((upd f 0 ((f 0) + q1)) 1) + q2)) 2) + q3)) 3 (((upd (upd (upd f 0 ((f 0) + q1)) 1 (((upd f 0 ((f 0) + q1)) 1) + q2)) 2 (((upd (upd f 0 ((f 0) + q1)) 1 (((upd f 0 ((f 0) + q1)) 1) + q2)) 2) + q3)) 3) + q4)) 4) + q5)) 5 (((upd (upd (upd (upd (upd f 0 ((f 0) + q1)) 1 (((upd f 0 ((f 0) + q1)) 1) + q2)) 2 (((upd (upd f 0 ((f 0) + q1)) 1 (((upd f 0 ((f 0) + q1)) 1) + q2)) 2) + q3)) 3 (((upd (upd (upd f 0 ((f 0) + q1)) 1 (((upd f 0 ((f 0) + q1)) 1) + q2)) 2 (((upd (upd f 0 ((f 0) + q1)) 1 (((upd f 0 ((f 0) + q1)) 1) + q2)) 2) + q3)) 3) + q4)) 4 (((upd (upd (upd (upd f 0 ((f 0) + q1)) 1 (((upd f 0 ((f 0) + q1)) 1) + q2)) 2 (((upd (upd f 0 ((f 0) + q1)) 1 (((upd f 0 ((f 0) + q1)) 1) + q2)) 2) + q3)) 3 (((upd (upd (upd f 0 ((f 0) + q1)) 1 (((upd f 0 ((f 0) + q1)) 1) + q2)) 2 (((upd (upd f 0 ((f 0) + q1)) 1 (((upd f 0 ((f 0) + q1)) 1) + q2)) 2) + q3)) 3) + q4)) 4) + q5)) 5) + q6)) 6) + q7)))), (wd, .inl (cI, 64, .inl w1)), (bl, .inl (cB, 64, .inl b))] H := hP
        have hD : va_D A [(h, .inr (13, [.ref sm, .ref wd, ms_size, ms_block, ms_gathered, ms_filled, ms_total, ms_blocks])), (sm, .inl (cI, 8, .inl (upd (upd (upd (upd (upd (upd (upd f 0 ((f 0) + q1)) 1 (((upd f 0 ((f 0) + q1)) 1) + q2)) 2 (((upd (upd f 0 ((f 0) + q1)) 1 (((upd f 0 ((f 0) + q1)) 1) + q2)) 2) + q3)) 3 (((upd (upd (upd f 0 ((f 0) + q1)) 1 (((upd f 0 ((f 0) + q1)) 1) + q2)) 2 (((upd (upd f 0 ((f 0) + q1)) 1 (((upd f 0 ((f 0) + q1)) 1) + q2)) 2) + q3)) 3) + q4)) 4 (((upd (upd (upd (upd f 0 ((f 0) + q1)) 1 (((upd f 0 ((f 0) + q1)) 1) + q2)) 2 (((upd (upd f 0 ((f 0) + q1)) 1 (((upd f 0 ((f 0) + q1)) 1) + q2)) 2) + q3)) 3 (((upd (upd (upd f 0 ((f 0) + q1)) 1 (((upd f 0 ((f 0) + q1)) 1) + q2)) 2 (((upd (upd f 0 ((f 0) + q1)) 1 (((upd f 0 ((f 0) + q1)) 1) + q2)) 2) + q3)) 3) + q4)) 4) + q5)) 5 (((upd (upd (upd (upd (upd f 0 ((f 0) + q1)) 1 (((upd f 0 ((f 0) + q1)) 1) + q2)) 2 (((upd (upd f 0 ((f 0) + q1)) 1 (((upd f 0 ((f 0) + q1)) 1) + q2)) 2) + q3)) 3 (((upd (upd (upd f 0 ((f 0) + q1)) 1 (((upd f 0 ((f 0) + q1)) 1) + q2)) 2 (((upd (upd f 0 ((f 0) + q1)) 1 (((upd f 0 ((f 0) + q1)) 1) + q2)) 2) + q3)) 3) + q4)) 4 (((upd (upd (upd (upd f 0 ((f 0) + q1)) 1 (((upd f 0 ((f 0) + q1)) 1) + q2)) 2 (((upd (upd f 0 ((f 0) + q1)) 1 (((upd f 0 ((f 0) + q1)) 1) + q2)) 2) + q3)) 3 (((upd (upd (upd f 0 ((f 0) + q1)) 1 (((upd f 0 ((f 0) + q1)) 1) + q2)) 2 (((upd (upd f 0 ((f 0) + q1)) 1 (((upd f 0 ((f 0) + q1)) 1) + q2)) 2) + q3)) 3) + q4)) 4) + q5)) 5) + q6)) 6 (((upd (upd (upd (upd (upd (upd f 0 ((f 0) + q1)) 1 (((upd f 0 ((f 0) + q1)) 1) + q2)) 2 (((upd (upd f 0 ((f 0) + q1)) 1 (((upd f 0 ((f 0) + q1)) 1) + q2)) 2) + q3)) 3 (((upd (upd (upd f 0 ((f 0) + q1)) 1 (((upd f 0 ((f 0) + q1)) 1) + q2)) 2 (((upd (upd f 0 ((f 0) + q1)) 1 (((upd f 0 ((f 0) + q1)) 1) + q2)) 2) + q3)) 3) + q4)) 4 (((upd (upd (upd (upd f 0 ((f 0) + q1)) 1 (((upd f 0 ((f 0) + q1)) 1) + q2)) 2 (((upd (upd f 0 ((f 0) + q1)) 1 (((upd f 0 ((f 0) + q1)) 1) + q2)) 2) + q3)) 3 (((upd (upd (upd f 0 ((f 0) + q1)) 1 (((upd f 0 ((f 0) + q1)) 1) + q2)) 2 (((upd (upd f 0 ((f 0) + q1)) 1 (((upd f 0 ((f 0) + q1)) 1) + q2)) 2) + q3)) 3) + q4)) 4) + q5)) 5 (((upd (upd (upd (upd (upd f 0 ((f 0) + q1)) 1 (((upd f 0 ((f 0) + q1)) 1) + q2)) 2 (((upd (upd f 0 ((f 0) + q1)) 1 (((upd f 0 ((f 0) + q1)) 1) + q2)) 2) + q3)) 3 (((upd (upd (upd f 0 ((f 0) + q1)) 1 (((upd f 0 ((f 0) + q1)) 1) + q2)) 2 (((upd (upd f 0 ((f 0) + q1)) 1 (((upd f 0 ((f 0) + q1)) 1) + q2)) 2) + q3)) 3) + q4)) 4 (((upd (upd (upd (upd f 0 ((f 0) + q1)) 1 (((upd f 0 ((f 0) + q1)) 1) + q2)) 2 (((upd (upd f 0 ((f 0) + q1)) 1 (((upd f 0 ((f 0) + q1)) 1) + q2)) 2) + q3)) 3 (((upd (upd (upd f 0 ((f 0) + q1)) 1 (((upd f 0 ((f 0) + q1)) 1) + q2)) 2 (((upd (upd f 0 ((f 0) + q1)) 1 (((upd f 0 ((f 0) + q1)) 1) + q2)) 2) + q3)) 3) + q4)) 4) + q5)) 5) + q6)) 6) + q7)))), (wd, .inl (cI, 64, .inl w1)), (bl, .inl (cB, 64, .inl b))] := hD
        refine lv_aload_n hx hb d_MS_compress_306 rfl (lv_at hl 0 rfl) ?_
        refine va_get (D := (dC, dI)) (ci := 13) (v := .ref sm) (C := R_MS) (T := F_MS) (N := 8) hx hb hts i_MS hown hK hP 0 rfl rfl 0 (by decide) (hts _ gw_1390) (fun _ h9 => h9) rfl d_MS_compress_307 ?_
        refine lv_bipush (v := 7) hx hb d_MS_compress_310 (by decide) ?_
        refine lv_dup2_11 hx hb d_MS_compress_312 rfl rfl ?_
        refine va_iald hx hb hK hP 1 0 rfl rfl (vp_in_nI (n := 7) (by omega) (by omega)) d_MS_compress_313 ?_
        rw [show (7 : Int32).toNatClampNeg = 7 from rfl]
        refine lv_iload hx hb d_MS_compress_314 (lv_at hl 8 rfl) ?_
        refine lv_iadd hx hb d_MS_compress_316 ?_
        refine va_iast hx hb hK hP hD hS 1 0 rfl rfl (vp_in_nI (n := 7) (by omega) (by omega)) d_MS_compress_317 (fun H locs hP hD hS => ?_)
        rw [show (7 : Int32).toNatClampNeg = 7 from rfl] at hP hD
        have hP : va_P (dC, dI) classes [(h, .inr (13, [.ref sm, .ref wd, ms_size, ms_block, ms_gathered, ms_filled, ms_total, ms_blocks])), (sm, .inl (cI, 8, .inl (upd (upd (upd (upd (upd (upd (upd (upd f 0 ((f 0) + q1)) 1 (((upd f 0 ((f 0) + q1)) 1) + q2)) 2 (((upd (upd f 0 ((f 0) + q1)) 1 (((upd f 0 ((f 0) + q1)) 1) + q2)) 2) + q3)) 3 (((upd (upd (upd f 0 ((f 0) + q1)) 1 (((upd f 0 ((f 0) + q1)) 1) + q2)) 2 (((upd (upd f 0 ((f 0) + q1)) 1 (((upd f 0 ((f 0) + q1)) 1) + q2)) 2) + q3)) 3) + q4)) 4 (((upd (upd (upd (upd f 0 ((f 0) + q1)) 1 (((upd f 0 ((f 0) + q1)) 1) + q2)) 2 (((upd (upd f 0 ((f 0) + q1)) 1 (((upd f 0 ((f 0) + q1)) 1) + q2)) 2) + q3)) 3 (((upd (upd (upd f 0 ((f 0) + q1)) 1 (((upd f 0 ((f 0) + q1)) 1) + q2)) 2 (((upd (upd f 0 ((f 0) + q1)) 1 (((upd f 0 ((f 0) + q1)) 1) + q2)) 2) + q3)) 3) + q4)) 4) + q5)) 5 (((upd (upd (upd (upd (upd f 0 ((f 0) + q1)) 1 (((upd f 0 ((f 0) + q1)) 1) + q2)) 2 (((upd (upd f 0 ((f 0) + q1)) 1 (((upd f 0 ((f 0) + q1)) 1) + q2)) 2) + q3)) 3 (((upd (upd (upd f 0 ((f 0) + q1)) 1 (((upd f 0 ((f 0) + q1)) 1) + q2)) 2 (((upd (upd f 0 ((f 0) + q1)) 1 (((upd f 0 ((f 0) + q1)) 1) + q2)) 2) + q3)) 3) + q4)) 4 (((upd (upd (upd (upd f 0 ((f 0) + q1)) 1 (((upd f 0 ((f 0) + q1)) 1) + q2)) 2 (((upd (upd f 0 ((f 0) + q1)) 1 (((upd f 0 ((f 0) + q1)) 1) + q2)) 2) + q3)) 3 (((upd (upd (upd f 0 ((f 0) + q1)) 1 (((upd f 0 ((f 0) + q1)) 1) + q2)) 2 (((upd (upd f 0 ((f 0) + q1)) 1 (((upd f 0 ((f 0) + q1)) 1) + q2)) 2) + q3)) 3) + q4)) 4) + q5)) 5) + q6)) 6 (((upd (upd (upd (upd (upd (upd f 0 ((f 0) + q1)) 1 (((upd f 0 ((f 0) + q1)) 1) + q2)) 2 (((upd (upd f 0 ((f 0) + q1)) 1 (((upd f 0 ((f 0) + q1)) 1) + q2)) 2) + q3)) 3 (((upd (upd (upd f 0 ((f 0) + q1)) 1 (((upd f 0 ((f 0) + q1)) 1) + q2)) 2 (((upd (upd f 0 ((f 0) + q1)) 1 (((upd f 0 ((f 0) + q1)) 1) + q2)) 2) + q3)) 3) + q4)) 4 (((upd (upd (upd (upd f 0 ((f 0) + q1)) 1 (((upd f 0 ((f 0) + q1)) 1) + q2)) 2 (((upd (upd f 0 ((f 0) + q1)) 1 (((upd f 0 ((f 0) + q1)) 1) + q2)) 2) + q3)) 3 (((upd (upd (upd f 0 ((f 0) + q1)) 1 (((upd f 0 ((f 0) + q1)) 1) + q2)) 2 (((upd (upd f 0 ((f 0) + q1)) 1 (((upd f 0 ((f 0) + q1)) 1) + q2)) 2) + q3)) 3) + q4)) 4) + q5)) 5 (((upd (upd (upd (upd (upd f 0 ((f 0) + q1)) 1 (((upd f 0 ((f 0) + q1)) 1) + q2)) 2 (((upd (upd f 0 ((f 0) + q1)) 1 (((upd f 0 ((f 0) + q1)) 1) + q2)) 2) + q3)) 3 (((upd (upd (upd f 0 ((f 0) + q1)) 1 (((upd f 0 ((f 0) + q1)) 1) + q2)) 2 (((upd (upd f 0 ((f 0) + q1)) 1 (((upd f 0 ((f 0) + q1)) 1) + q2)) 2) + q3)) 3) + q4)) 4 (((upd (upd (upd (upd f 0 ((f 0) + q1)) 1 (((upd f 0 ((f 0) + q1)) 1) + q2)) 2 (((upd (upd f 0 ((f 0) + q1)) 1 (((upd f 0 ((f 0) + q1)) 1) + q2)) 2) + q3)) 3 (((upd (upd (upd f 0 ((f 0) + q1)) 1 (((upd f 0 ((f 0) + q1)) 1) + q2)) 2 (((upd (upd f 0 ((f 0) + q1)) 1 (((upd f 0 ((f 0) + q1)) 1) + q2)) 2) + q3)) 3) + q4)) 4) + q5)) 5) + q6)) 6) + q7)) 7 (((upd (upd (upd (upd (upd (upd (upd f 0 ((f 0) + q1)) 1 (((upd f 0 ((f 0) + q1)) 1) + q2)) 2 (((upd (upd f 0 ((f 0) + q1)) 1 (((upd f 0 ((f 0) + q1)) 1) + q2)) 2) + q3)) 3 (((upd (upd (upd f 0 ((f 0) + q1)) 1 (((upd f 0 ((f 0) + q1)) 1) + q2)) 2 (((upd (upd f 0 ((f 0) + q1)) 1 (((upd f 0 ((f 0) + q1)) 1) + q2)) 2) + q3)) 3) + q4)) 4 (((upd (upd (upd (upd f 0 ((f 0) + q1)) 1 (((upd f 0 ((f 0) + q1)) 1) + q2)) 2 (((upd (upd f 0 ((f 0) + q1)) 1 (((upd f 0 ((f 0) + q1)) 1) + q2)) 2) + q3)) 3 (((upd (upd (upd f 0 ((f 0) + q1)) 1 (((upd f 0 ((f 0) + q1)) 1) + q2)) 2 (((upd (upd f 0 ((f 0) + q1)) 1 (((upd f 0 ((f 0) + q1)) 1) + q2)) 2) + q3)) 3) + q4)) 4) + q5)) 5 (((upd (upd (upd (upd (upd f 0 ((f 0) + q1)) 1 (((upd f 0 ((f 0) + q1)) 1) + q2)) 2 (((upd (upd f 0 ((f 0) + q1)) 1 (((upd f 0 ((f 0) + q1)) 1) + q2)) 2) + q3)) 3 (((upd (upd (upd f 0 ((f 0) + q1)) 1 (((upd f 0 ((f 0) + q1)) 1) + q2)) 2 (((upd (upd f 0 ((f 0) + q1)) 1 (((upd f 0 ((f 0) + q1)) 1) + q2)) 2) + q3)) 3) + q4)) 4 (((upd (upd (upd (upd f 0 ((f 0) + q1)) 1 (((upd f 0 ((f 0) + q1)) 1) + q2)) 2 (((upd (upd f 0 ((f 0) + q1)) 1 (((upd f 0 ((f 0) + q1)) 1) + q2)) 2) + q3)) 3 (((upd (upd (upd f 0 ((f 0) + q1)) 1 (((upd f 0 ((f 0) + q1)) 1) + q2)) 2 (((upd (upd f 0 ((f 0) + q1)) 1 (((upd f 0 ((f 0) + q1)) 1) + q2)) 2) + q3)) 3) + q4)) 4) + q5)) 5) + q6)) 6 (((upd (upd (upd (upd (upd (upd f 0 ((f 0) + q1)) 1 (((upd f 0 ((f 0) + q1)) 1) + q2)) 2 (((upd (upd f 0 ((f 0) + q1)) 1 (((upd f 0 ((f 0) + q1)) 1) + q2)) 2) + q3)) 3 (((upd (upd (upd f 0 ((f 0) + q1)) 1 (((upd f 0 ((f 0) + q1)) 1) + q2)) 2 (((upd (upd f 0 ((f 0) + q1)) 1 (((upd f 0 ((f 0) + q1)) 1) + q2)) 2) + q3)) 3) + q4)) 4 (((upd (upd (upd (upd f 0 ((f 0) + q1)) 1 (((upd f 0 ((f 0) + q1)) 1) + q2)) 2 (((upd (upd f 0 ((f 0) + q1)) 1 (((upd f 0 ((f 0) + q1)) 1) + q2)) 2) + q3)) 3 (((upd (upd (upd f 0 ((f 0) + q1)) 1 (((upd f 0 ((f 0) + q1)) 1) + q2)) 2 (((upd (upd f 0 ((f 0) + q1)) 1 (((upd f 0 ((f 0) + q1)) 1) + q2)) 2) + q3)) 3) + q4)) 4) + q5)) 5 (((upd (upd (upd (upd (upd f 0 ((f 0) + q1)) 1 (((upd f 0 ((f 0) + q1)) 1) + q2)) 2 (((upd (upd f 0 ((f 0) + q1)) 1 (((upd f 0 ((f 0) + q1)) 1) + q2)) 2) + q3)) 3 (((upd (upd (upd f 0 ((f 0) + q1)) 1 (((upd f 0 ((f 0) + q1)) 1) + q2)) 2 (((upd (upd f 0 ((f 0) + q1)) 1 (((upd f 0 ((f 0) + q1)) 1) + q2)) 2) + q3)) 3) + q4)) 4 (((upd (upd (upd (upd f 0 ((f 0) + q1)) 1 (((upd f 0 ((f 0) + q1)) 1) + q2)) 2 (((upd (upd f 0 ((f 0) + q1)) 1 (((upd f 0 ((f 0) + q1)) 1) + q2)) 2) + q3)) 3 (((upd (upd (upd f 0 ((f 0) + q1)) 1 (((upd f 0 ((f 0) + q1)) 1) + q2)) 2 (((upd (upd f 0 ((f 0) + q1)) 1 (((upd f 0 ((f 0) + q1)) 1) + q2)) 2) + q3)) 3) + q4)) 4) + q5)) 5) + q6)) 6) + q7)) 7) + q8)))), (wd, .inl (cI, 64, .inl w1)), (bl, .inl (cB, 64, .inl b))] H := hP
        have hD : va_D A [(h, .inr (13, [.ref sm, .ref wd, ms_size, ms_block, ms_gathered, ms_filled, ms_total, ms_blocks])), (sm, .inl (cI, 8, .inl (upd (upd (upd (upd (upd (upd (upd (upd f 0 ((f 0) + q1)) 1 (((upd f 0 ((f 0) + q1)) 1) + q2)) 2 (((upd (upd f 0 ((f 0) + q1)) 1 (((upd f 0 ((f 0) + q1)) 1) + q2)) 2) + q3)) 3 (((upd (upd (upd f 0 ((f 0) + q1)) 1 (((upd f 0 ((f 0) + q1)) 1) + q2)) 2 (((upd (upd f 0 ((f 0) + q1)) 1 (((upd f 0 ((f 0) + q1)) 1) + q2)) 2) + q3)) 3) + q4)) 4 (((upd (upd (upd (upd f 0 ((f 0) + q1)) 1 (((upd f 0 ((f 0) + q1)) 1) + q2)) 2 (((upd (upd f 0 ((f 0) + q1)) 1 (((upd f 0 ((f 0) + q1)) 1) + q2)) 2) + q3)) 3 (((upd (upd (upd f 0 ((f 0) + q1)) 1 (((upd f 0 ((f 0) + q1)) 1) + q2)) 2 (((upd (upd f 0 ((f 0) + q1)) 1 (((upd f 0 ((f 0) + q1)) 1) + q2)) 2) + q3)) 3) + q4)) 4) + q5)) 5 (((upd (upd (upd (upd (upd f 0 ((f 0) + q1)) 1 (((upd f 0 ((f 0) + q1)) 1) + q2)) 2 (((upd (upd f 0 ((f 0) + q1)) 1 (((upd f 0 ((f 0) + q1)) 1) + q2)) 2) + q3)) 3 (((upd (upd (upd f 0 ((f 0) + q1)) 1 (((upd f 0 ((f 0) + q1)) 1) + q2)) 2 (((upd (upd f 0 ((f 0) + q1)) 1 (((upd f 0 ((f 0) + q1)) 1) + q2)) 2) + q3)) 3) + q4)) 4 (((upd (upd (upd (upd f 0 ((f 0) + q1)) 1 (((upd f 0 ((f 0) + q1)) 1) + q2)) 2 (((upd (upd f 0 ((f 0) + q1)) 1 (((upd f 0 ((f 0) + q1)) 1) + q2)) 2) + q3)) 3 (((upd (upd (upd f 0 ((f 0) + q1)) 1 (((upd f 0 ((f 0) + q1)) 1) + q2)) 2 (((upd (upd f 0 ((f 0) + q1)) 1 (((upd f 0 ((f 0) + q1)) 1) + q2)) 2) + q3)) 3) + q4)) 4) + q5)) 5) + q6)) 6 (((upd (upd (upd (upd (upd (upd f 0 ((f 0) + q1)) 1 (((upd f 0 ((f 0) + q1)) 1) + q2)) 2 (((upd (upd f 0 ((f 0) + q1)) 1 (((upd f 0 ((f 0) + q1)) 1) + q2)) 2) + q3)) 3 (((upd (upd (upd f 0 ((f 0) + q1)) 1 (((upd f 0 ((f 0) + q1)) 1) + q2)) 2 (((upd (upd f 0 ((f 0) + q1)) 1 (((upd f 0 ((f 0) + q1)) 1) + q2)) 2) + q3)) 3) + q4)) 4 (((upd (upd (upd (upd f 0 ((f 0) + q1)) 1 (((upd f 0 ((f 0) + q1)) 1) + q2)) 2 (((upd (upd f 0 ((f 0) + q1)) 1 (((upd f 0 ((f 0) + q1)) 1) + q2)) 2) + q3)) 3 (((upd (upd (upd f 0 ((f 0) + q1)) 1 (((upd f 0 ((f 0) + q1)) 1) + q2)) 2 (((upd (upd f 0 ((f 0) + q1)) 1 (((upd f 0 ((f 0) + q1)) 1) + q2)) 2) + q3)) 3) + q4)) 4) + q5)) 5 (((upd (upd (upd (upd (upd f 0 ((f 0) + q1)) 1 (((upd f 0 ((f 0) + q1)) 1) + q2)) 2 (((upd (upd f 0 ((f 0) + q1)) 1 (((upd f 0 ((f 0) + q1)) 1) + q2)) 2) + q3)) 3 (((upd (upd (upd f 0 ((f 0) + q1)) 1 (((upd f 0 ((f 0) + q1)) 1) + q2)) 2 (((upd (upd f 0 ((f 0) + q1)) 1 (((upd f 0 ((f 0) + q1)) 1) + q2)) 2) + q3)) 3) + q4)) 4 (((upd (upd (upd (upd f 0 ((f 0) + q1)) 1 (((upd f 0 ((f 0) + q1)) 1) + q2)) 2 (((upd (upd f 0 ((f 0) + q1)) 1 (((upd f 0 ((f 0) + q1)) 1) + q2)) 2) + q3)) 3 (((upd (upd (upd f 0 ((f 0) + q1)) 1 (((upd f 0 ((f 0) + q1)) 1) + q2)) 2 (((upd (upd f 0 ((f 0) + q1)) 1 (((upd f 0 ((f 0) + q1)) 1) + q2)) 2) + q3)) 3) + q4)) 4) + q5)) 5) + q6)) 6) + q7)) 7 (((upd (upd (upd (upd (upd (upd (upd f 0 ((f 0) + q1)) 1 (((upd f 0 ((f 0) + q1)) 1) + q2)) 2 (((upd (upd f 0 ((f 0) + q1)) 1 (((upd f 0 ((f 0) + q1)) 1) + q2)) 2) + q3)) 3 (((upd (upd (upd f 0 ((f 0) + q1)) 1 (((upd f 0 ((f 0) + q1)) 1) + q2)) 2 (((upd (upd f 0 ((f 0) + q1)) 1 (((upd f 0 ((f 0) + q1)) 1) + q2)) 2) + q3)) 3) + q4)) 4 (((upd (upd (upd (upd f 0 ((f 0) + q1)) 1 (((upd f 0 ((f 0) + q1)) 1) + q2)) 2 (((upd (upd f 0 ((f 0) + q1)) 1 (((upd f 0 ((f 0) + q1)) 1) + q2)) 2) + q3)) 3 (((upd (upd (upd f 0 ((f 0) + q1)) 1 (((upd f 0 ((f 0) + q1)) 1) + q2)) 2 (((upd (upd f 0 ((f 0) + q1)) 1 (((upd f 0 ((f 0) + q1)) 1) + q2)) 2) + q3)) 3) + q4)) 4) + q5)) 5 (((upd (upd (upd (upd (upd f 0 ((f 0) + q1)) 1 (((upd f 0 ((f 0) + q1)) 1) + q2)) 2 (((upd (upd f 0 ((f 0) + q1)) 1 (((upd f 0 ((f 0) + q1)) 1) + q2)) 2) + q3)) 3 (((upd (upd (upd f 0 ((f 0) + q1)) 1 (((upd f 0 ((f 0) + q1)) 1) + q2)) 2 (((upd (upd f 0 ((f 0) + q1)) 1 (((upd f 0 ((f 0) + q1)) 1) + q2)) 2) + q3)) 3) + q4)) 4 (((upd (upd (upd (upd f 0 ((f 0) + q1)) 1 (((upd f 0 ((f 0) + q1)) 1) + q2)) 2 (((upd (upd f 0 ((f 0) + q1)) 1 (((upd f 0 ((f 0) + q1)) 1) + q2)) 2) + q3)) 3 (((upd (upd (upd f 0 ((f 0) + q1)) 1 (((upd f 0 ((f 0) + q1)) 1) + q2)) 2 (((upd (upd f 0 ((f 0) + q1)) 1 (((upd f 0 ((f 0) + q1)) 1) + q2)) 2) + q3)) 3) + q4)) 4) + q5)) 5) + q6)) 6 (((upd (upd (upd (upd (upd (upd f 0 ((f 0) + q1)) 1 (((upd f 0 ((f 0) + q1)) 1) + q2)) 2 (((upd (upd f 0 ((f 0) + q1)) 1 (((upd f 0 ((f 0) + q1)) 1) + q2)) 2) + q3)) 3 (((upd (upd (upd f 0 ((f 0) + q1)) 1 (((upd f 0 ((f 0) + q1)) 1) + q2)) 2 (((upd (upd f 0 ((f 0) + q1)) 1 (((upd f 0 ((f 0) + q1)) 1) + q2)) 2) + q3)) 3) + q4)) 4 (((upd (upd (upd (upd f 0 ((f 0) + q1)) 1 (((upd f 0 ((f 0) + q1)) 1) + q2)) 2 (((upd (upd f 0 ((f 0) + q1)) 1 (((upd f 0 ((f 0) + q1)) 1) + q2)) 2) + q3)) 3 (((upd (upd (upd f 0 ((f 0) + q1)) 1 (((upd f 0 ((f 0) + q1)) 1) + q2)) 2 (((upd (upd f 0 ((f 0) + q1)) 1 (((upd f 0 ((f 0) + q1)) 1) + q2)) 2) + q3)) 3) + q4)) 4) + q5)) 5 (((upd (upd (upd (upd (upd f 0 ((f 0) + q1)) 1 (((upd f 0 ((f 0) + q1)) 1) + q2)) 2 (((upd (upd f 0 ((f 0) + q1)) 1 (((upd f 0 ((f 0) + q1)) 1) + q2)) 2) + q3)) 3 (((upd (upd (upd f 0 ((f 0) + q1)) 1 (((upd f 0 ((f 0) + q1)) 1) + q2)) 2 (((upd (upd f 0 ((f 0) + q1)) 1 (((upd f 0 ((f 0) + q1)) 1) + q2)) 2) + q3)) 3) + q4)) 4 (((upd (upd (upd (upd f 0 ((f 0) + q1)) 1 (((upd f 0 ((f 0) + q1)) 1) + q2)) 2 (((upd (upd f 0 ((f 0) + q1)) 1 (((upd f 0 ((f 0) + q1)) 1) + q2)) 2) + q3)) 3 (((upd (upd (upd f 0 ((f 0) + q1)) 1 (((upd f 0 ((f 0) + q1)) 1) + q2)) 2 (((upd (upd f 0 ((f 0) + q1)) 1 (((upd f 0 ((f 0) + q1)) 1) + q2)) 2) + q3)) 3) + q4)) 4) + q5)) 5) + q6)) 6) + q7)) 7) + q8)))), (wd, .inl (cI, 64, .inl w1)), (bl, .inl (cB, 64, .inl b))] := hD
        rw [← hQe]
        have hP : va_P (dC, dI) classes [(h, .inr (13, [.ref sm, .ref wd, ms_size, ms_block, ms_gathered, ms_filled, ms_total, ms_blocks])), (sm, .inl (cI, 8, .inl (sh_comp f b))), (wd, .inl (cI, 64, .inl w1)), (bl, .inl (cB, 64, .inl b))] H := by rw [show sh_comp f b = sh_acc f (sh_rounds w1 64 (sh_in f)) from by unfold sh_comp; rw [sh_rounds_congr 64 hw0], hq]; exact hP
        have hD : va_D A [(h, .inr (13, [.ref sm, .ref wd, ms_size, ms_block, ms_gathered, ms_filled, ms_total, ms_blocks])), (sm, .inl (cI, 8, .inl (sh_comp f b))), (wd, .inl (cI, 64, .inl w1)), (bl, .inl (cB, 64, .inl b))] := by rw [show sh_comp f b = sh_acc f (sh_rounds w1 64 (sh_in f)) from by unfold sh_comp; rw [sh_rounds_congr 64 hw0], hq]; exact hD
        exact W.vret hx hb hr (fun t ht hW => ⟨⟨w1, rfl, trivial, by rw [ht]; exact hP, va_K.moved hW.alike hK, hD⟩, hS.F ht⟩) hS.2.2 d_MS_compress_318
      · have hk9 : k < 64 := by rcases Nat.lt_or_ge k 64 with z | z; exact z; exact absurd (nI_le (a := 64) z (by omega)) c_78
        refine lv_iload hx hb d_MS_compress_81 (lv_at hl 5 rfl) ?_
        refine lv_bipush (v := 6) hx hb d_MS_compress_83 (by decide) ?_
        have hPc := hP.sub (ws' := []) [] rfl
        have hDc := hD.sub (ws' := []) [] (by decide) rfl
        have hFc := va_free (wc := []) hD hS hA [] rfl
        refine va_calli (va_runS (As := [.int q5, .int 6]) (rest := []) ⟨hx, hb, hml, hown, hts⟩ (m_Ig_rotR l dC dI cI cB cL cZ cR q5 6 H.size ) ⟨callB_of 2 hts (xg_in gw_1807) rfl rfl rfl (hts _ gw_25) (hts _ gw_1805) (by decide +kernel) ⟨Nat.le_of_ble_eq_true rfl, Nat.le_of_ble_eq_true rfl⟩, hts _ gw_1806⟩ ⟨xw_blind, fun U hU hW => ⟨rfl, by rw [hU], by rw [hU]; exact hPc, va_K.moved hW.alike hK, hDc.weaken (fun _ _ _ _ => trivial)⟩⟩ rfl rfl hl.1 rfl (lv_room (Nat.le_of_ble_eq_true rfl)) d_MS_compress_85 ⟨Nat.le_of_ble_eq_true rfl, Nat.le_of_ble_eq_true rfl⟩) hS (fun q _ h => hFc q h) hFc (fun r9 u t H1 locs ht hvm hw hB hz1 hk1 hS => ?_)
        obtain ⟨hP1, hK1, hD1⟩ := hB
        rw [ht] at hP1
        obtain ⟨hP, hD⟩ := va_join (wr := [(h, .inr (13, [.ref sm, .ref wd, ms_size, ms_block, ms_gathered, ms_filled, ms_total, ms_blocks])), (sm, .inl (cI, 8, .inl f)), (wd, .inl (cI, 64, .inl w1)), (bl, .inl (cB, 64, .inl b))]) (w1 := []) hP hD [] [0, 1, 2, 3] rfl rfl (by decide) (by decide) hk1 hFc hP1 hD1
        generalize H1 = H at hP hS ⊢
        have hP : va_P (dC, dI) classes [(h, .inr (13, [.ref sm, .ref wd, ms_size, ms_block, ms_gathered, ms_filled, ms_total, ms_blocks])), (sm, .inl (cI, 8, .inl f)), (wd, .inl (cI, 64, .inl w1)), (bl, .inl (cB, 64, .inl b))] H := hP
        have hD : va_D A [(h, .inr (13, [.ref sm, .ref wd, ms_size, ms_block, ms_gathered, ms_filled, ms_total, ms_blocks])), (sm, .inl (cI, 8, .inl f)), (wd, .inl (cI, 64, .inl w1)), (bl, .inl (cB, 64, .inl b))] := hD
        subst hw
        refine lv_iload hx hb d_MS_compress_88 (lv_at hl 5 rfl) ?_
        refine lv_bipush (v := 11) hx hb d_MS_compress_90 (by decide) ?_
        have hPc := hP.sub (ws' := []) [] rfl
        have hDc := hD.sub (ws' := []) [] (by decide) rfl
        have hFc := va_free (wc := []) hD hS hA [] rfl
        refine va_calli (va_runS (As := [.int q5, .int 11]) (rest := [.int (sh_rr q5 6)]) ⟨hx, hb, hml, hown, hts⟩ (m_Ig_rotR l dC dI cI cB cL cZ cR q5 11 H.size ) ⟨callB_of 2 hts (xg_in gw_1807) rfl rfl rfl (hts _ gw_25) (hts _ gw_1805) (by decide +kernel) ⟨Nat.le_of_ble_eq_true rfl, Nat.le_of_ble_eq_true rfl⟩, hts _ gw_1806⟩ ⟨xw_blind, fun U hU hW => ⟨rfl, by rw [hU], by rw [hU]; exact hPc, va_K.moved hW.alike hK, hDc.weaken (fun _ _ _ _ => trivial)⟩⟩ rfl rfl hl.1 rfl (lv_room (Nat.le_of_ble_eq_true rfl)) d_MS_compress_92 ⟨Nat.le_of_ble_eq_true rfl, Nat.le_of_ble_eq_true rfl⟩) hS (fun q _ h => hFc q h) hFc (fun r9 u t H1 locs ht hvm hw hB hz1 hk1 hS => ?_)
        obtain ⟨hP1, hK1, hD1⟩ := hB
        rw [ht] at hP1
        obtain ⟨hP, hD⟩ := va_join (wr := [(h, .inr (13, [.ref sm, .ref wd, ms_size, ms_block, ms_gathered, ms_filled, ms_total, ms_blocks])), (sm, .inl (cI, 8, .inl f)), (wd, .inl (cI, 64, .inl w1)), (bl, .inl (cB, 64, .inl b))]) (w1 := []) hP hD [] [0, 1, 2, 3] rfl rfl (by decide) (by decide) hk1 hFc hP1 hD1
        generalize H1 = H at hP hS ⊢
        have hP : va_P (dC, dI) classes [(h, .inr (13, [.ref sm, .ref wd, ms_size, ms_block, ms_gathered, ms_filled, ms_total, ms_blocks])), (sm, .inl (cI, 8, .inl f)), (wd, .inl (cI, 64, .inl w1)), (bl, .inl (cB, 64, .inl b))] H := hP
        have hD : va_D A [(h, .inr (13, [.ref sm, .ref wd, ms_size, ms_block, ms_gathered, ms_filled, ms_total, ms_blocks])), (sm, .inl (cI, 8, .inl f)), (wd, .inl (cI, 64, .inl w1)), (bl, .inl (cB, 64, .inl b))] := hD
        subst hw
        refine lv_ixor hx hb d_MS_compress_95 ?_
        refine lv_iload hx hb d_MS_compress_96 (lv_at hl 5 rfl) ?_
        refine lv_bipush (v := 25) hx hb d_MS_compress_98 (by decide) ?_
        have hPc := hP.sub (ws' := []) [] rfl
        have hDc := hD.sub (ws' := []) [] (by decide) rfl
        have hFc := va_free (wc := []) hD hS hA [] rfl
        refine va_calli (va_runS (As := [.int q5, .int 25]) (rest := [.int ((sh_rr q5 6) ^^^ (sh_rr q5 11))]) ⟨hx, hb, hml, hown, hts⟩ (m_Ig_rotR l dC dI cI cB cL cZ cR q5 25 H.size ) ⟨callB_of 2 hts (xg_in gw_1807) rfl rfl rfl (hts _ gw_25) (hts _ gw_1805) (by decide +kernel) ⟨Nat.le_of_ble_eq_true rfl, Nat.le_of_ble_eq_true rfl⟩, hts _ gw_1806⟩ ⟨xw_blind, fun U hU hW => ⟨rfl, by rw [hU], by rw [hU]; exact hPc, va_K.moved hW.alike hK, hDc.weaken (fun _ _ _ _ => trivial)⟩⟩ rfl rfl hl.1 rfl (lv_room (Nat.le_of_ble_eq_true rfl)) d_MS_compress_100 ⟨Nat.le_of_ble_eq_true rfl, Nat.le_of_ble_eq_true rfl⟩) hS (fun q _ h => hFc q h) hFc (fun r9 u t H1 locs ht hvm hw hB hz1 hk1 hS => ?_)
        obtain ⟨hP1, hK1, hD1⟩ := hB
        rw [ht] at hP1
        obtain ⟨hP, hD⟩ := va_join (wr := [(h, .inr (13, [.ref sm, .ref wd, ms_size, ms_block, ms_gathered, ms_filled, ms_total, ms_blocks])), (sm, .inl (cI, 8, .inl f)), (wd, .inl (cI, 64, .inl w1)), (bl, .inl (cB, 64, .inl b))]) (w1 := []) hP hD [] [0, 1, 2, 3] rfl rfl (by decide) (by decide) hk1 hFc hP1 hD1
        generalize H1 = H at hP hS ⊢
        have hP : va_P (dC, dI) classes [(h, .inr (13, [.ref sm, .ref wd, ms_size, ms_block, ms_gathered, ms_filled, ms_total, ms_blocks])), (sm, .inl (cI, 8, .inl f)), (wd, .inl (cI, 64, .inl w1)), (bl, .inl (cB, 64, .inl b))] H := hP
        have hD : va_D A [(h, .inr (13, [.ref sm, .ref wd, ms_size, ms_block, ms_gathered, ms_filled, ms_total, ms_blocks])), (sm, .inl (cI, 8, .inl f)), (wd, .inl (cI, 64, .inl w1)), (bl, .inl (cB, 64, .inl b))] := hD
        subst hw
        refine lv_ixor hx hb d_MS_compress_103 ?_
        refine lv_topi (fun x_1 ex_1 => ?_)
        obtain rfl : x_1 = sh_right q5 := by rw [ex_1]; first | done | (rw [sh_rr_6, sh_rr_11, sh_rr_25]; rfl)
        refine lv_istore (lv' := [(12, .int (sh_right q5)), (0, .ref h), (3, .int q1), (4, .int q2), (5, .int q3), (6, .int q4), (7, .int q5), (8, .int q6), (9, .int q7), (10, .int q8), (11, .int (nI k))]) hx hb d_MS_compress_104 hl (by decide) rfl (fun ls hl => ?_)
        refine lv_iload hx hb d_MS_compress_106 (lv_at hl 9 rfl) ?_
        refine lv_iload hx hb d_MS_compress_108 (lv_at hl 0 rfl) ?_
        refine lv_iadd hx hb d_MS_compress_110 ?_
        refine lv_iload hx hb d_MS_compress_111 (lv_at hl 6 rfl) ?_
        refine lv_iload hx hb d_MS_compress_113 (lv_at hl 7 rfl) ?_
        refine lv_iand hx hb d_MS_compress_115 ?_
        refine lv_iload hx hb d_MS_compress_116 (lv_at hl 6 rfl) ?_
        refine lv_iconst (v := (-1)) hx hb d_MS_compress_118 (by decide) ?_
        refine lv_ixor hx hb d_MS_compress_119 ?_
        refine lv_iload hx hb d_MS_compress_120 (lv_at hl 8 rfl) ?_
        refine lv_iand hx hb d_MS_compress_122 ?_
        refine lv_ixor hx hb d_MS_compress_123 ?_
        refine lv_iadd hx hb d_MS_compress_124 ?_
        refine xs_getsN hx hb hZ_ROOTS hS hown (hN _ gn_1808) (fun _ h9 => h9) d_MS_compress_125 ?_
        refine lv_iload hx hb d_MS_compress_128 (lv_at hl 10 rfl) ?_
        refine va_tl (v := .long (sh_ROOTS k)) hx hb hT_ROOTS hS (vp_in_nI (by omega) (by omega)) (by rw [show (nI k).toNatClampNeg = k from nI_clamp (by omega)]) d_MS_compress_130 ?_
        refine lv_bipush (v := 32) hx hb d_MS_compress_131 (by decide) ?_
        refine lv_lushr hx hb d_MS_compress_133 rfl ?_
        refine lv_l2i hx hb d_MS_compress_134 rfl ?_
        refine lv_topi (fun x_2 ex_2 => ?_)
        obtain rfl : x_2 = sh_ROUND k := by rw [ex_2]; first | done | (exact md_root k hk9)
        refine lv_iadd hx hb d_MS_compress_135 ?_
        refine lv_aload_n hx hb d_MS_compress_136 rfl (lv_at hl 1 rfl) ?_
        refine va_get (D := (dC, dI)) (ci := 13) (v := .ref wd) (C := R_MS) (T := F_MS) (N := 8) hx hb hts i_MS hown hK hP 0 rfl rfl 1 (by decide) (hts _ gw_1391) (fun _ h9 => h9) rfl d_MS_compress_137 ?_
        refine lv_iload hx hb d_MS_compress_140 (lv_at hl 10 rfl) ?_
        refine va_iald hx hb hK hP 2 0 rfl rfl (vp_in_nI (by omega) (by omega)) d_MS_compress_142 ?_
        rw [show (nI k).toNatClampNeg = k from nI_clamp (by omega)]
        refine lv_iadd hx hb d_MS_compress_143 ?_
        refine lv_topi (fun x_3 ex_3 => ?_)
        obtain rfl : x_3 = sh_one q5 q6 q7 q8 (sh_ROUND k) (w1 k) := by rw [ex_3]; first | done | (rfl)
        refine lv_istore (lv' := [(13, .int (sh_one q5 q6 q7 q8 (sh_ROUND k) (w1 k))), (12, .int (sh_right q5)), (0, .ref h), (3, .int q1), (4, .int q2), (5, .int q3), (6, .int q4), (7, .int q5), (8, .int q6), (9, .int q7), (10, .int q8), (11, .int (nI k))]) hx hb d_MS_compress_144 hl (by decide) rfl (fun ls hl => ?_)
        refine lv_iload_n hx hb d_MS_compress_146 rfl (lv_at hl 3 rfl) ?_
        refine lv_iconst (v := 2) hx hb d_MS_compress_147 (by decide) ?_
        have hPc := hP.sub (ws' := []) [] rfl
        have hDc := hD.sub (ws' := []) [] (by decide) rfl
        have hFc := va_free (wc := []) hD hS hA [] rfl
        refine va_calli (va_runS (As := [.int q1, .int 2]) (rest := []) ⟨hx, hb, hml, hown, hts⟩ (m_Ig_rotR l dC dI cI cB cL cZ cR q1 2 H.size ) ⟨callB_of 2 hts (xg_in gw_1807) rfl rfl rfl (hts _ gw_25) (hts _ gw_1805) (by decide +kernel) ⟨Nat.le_of_ble_eq_true rfl, Nat.le_of_ble_eq_true rfl⟩, hts _ gw_1806⟩ ⟨xw_blind, fun U hU hW => ⟨rfl, by rw [hU], by rw [hU]; exact hPc, va_K.moved hW.alike hK, hDc.weaken (fun _ _ _ _ => trivial)⟩⟩ rfl rfl hl.1 rfl (lv_room (Nat.le_of_ble_eq_true rfl)) d_MS_compress_148 ⟨Nat.le_of_ble_eq_true rfl, Nat.le_of_ble_eq_true rfl⟩) hS (fun q _ h => hFc q h) hFc (fun r9 u t H1 locs ht hvm hw hB hz1 hk1 hS => ?_)
        obtain ⟨hP1, hK1, hD1⟩ := hB
        rw [ht] at hP1
        obtain ⟨hP, hD⟩ := va_join (wr := [(h, .inr (13, [.ref sm, .ref wd, ms_size, ms_block, ms_gathered, ms_filled, ms_total, ms_blocks])), (sm, .inl (cI, 8, .inl f)), (wd, .inl (cI, 64, .inl w1)), (bl, .inl (cB, 64, .inl b))]) (w1 := []) hP hD [] [0, 1, 2, 3] rfl rfl (by decide) (by decide) hk1 hFc hP1 hD1
        generalize H1 = H at hP hS ⊢
        have hP : va_P (dC, dI) classes [(h, .inr (13, [.ref sm, .ref wd, ms_size, ms_block, ms_gathered, ms_filled, ms_total, ms_blocks])), (sm, .inl (cI, 8, .inl f)), (wd, .inl (cI, 64, .inl w1)), (bl, .inl (cB, 64, .inl b))] H := hP
        have hD : va_D A [(h, .inr (13, [.ref sm, .ref wd, ms_size, ms_block, ms_gathered, ms_filled, ms_total, ms_blocks])), (sm, .inl (cI, 8, .inl f)), (wd, .inl (cI, 64, .inl w1)), (bl, .inl (cB, 64, .inl b))] := hD
        subst hw
        refine lv_iload_n hx hb d_MS_compress_151 rfl (lv_at hl 3 rfl) ?_
        refine lv_bipush (v := 13) hx hb d_MS_compress_152 (by decide) ?_
        have hPc := hP.sub (ws' := []) [] rfl
        have hDc := hD.sub (ws' := []) [] (by decide) rfl
        have hFc := va_free (wc := []) hD hS hA [] rfl
        refine va_calli (va_runS (As := [.int q1, .int 13]) (rest := [.int (sh_rr q1 2)]) ⟨hx, hb, hml, hown, hts⟩ (m_Ig_rotR l dC dI cI cB cL cZ cR q1 13 H.size ) ⟨callB_of 2 hts (xg_in gw_1807) rfl rfl rfl (hts _ gw_25) (hts _ gw_1805) (by decide +kernel) ⟨Nat.le_of_ble_eq_true rfl, Nat.le_of_ble_eq_true rfl⟩, hts _ gw_1806⟩ ⟨xw_blind, fun U hU hW => ⟨rfl, by rw [hU], by rw [hU]; exact hPc, va_K.moved hW.alike hK, hDc.weaken (fun _ _ _ _ => trivial)⟩⟩ rfl rfl hl.1 rfl (lv_room (Nat.le_of_ble_eq_true rfl)) d_MS_compress_154 ⟨Nat.le_of_ble_eq_true rfl, Nat.le_of_ble_eq_true rfl⟩) hS (fun q _ h => hFc q h) hFc (fun r9 u t H1 locs ht hvm hw hB hz1 hk1 hS => ?_)
        obtain ⟨hP1, hK1, hD1⟩ := hB
        rw [ht] at hP1
        obtain ⟨hP, hD⟩ := va_join (wr := [(h, .inr (13, [.ref sm, .ref wd, ms_size, ms_block, ms_gathered, ms_filled, ms_total, ms_blocks])), (sm, .inl (cI, 8, .inl f)), (wd, .inl (cI, 64, .inl w1)), (bl, .inl (cB, 64, .inl b))]) (w1 := []) hP hD [] [0, 1, 2, 3] rfl rfl (by decide) (by decide) hk1 hFc hP1 hD1
        generalize H1 = H at hP hS ⊢
        have hP : va_P (dC, dI) classes [(h, .inr (13, [.ref sm, .ref wd, ms_size, ms_block, ms_gathered, ms_filled, ms_total, ms_blocks])), (sm, .inl (cI, 8, .inl f)), (wd, .inl (cI, 64, .inl w1)), (bl, .inl (cB, 64, .inl b))] H := hP
        have hD : va_D A [(h, .inr (13, [.ref sm, .ref wd, ms_size, ms_block, ms_gathered, ms_filled, ms_total, ms_blocks])), (sm, .inl (cI, 8, .inl f)), (wd, .inl (cI, 64, .inl w1)), (bl, .inl (cB, 64, .inl b))] := hD
        subst hw
        refine lv_ixor hx hb d_MS_compress_157 ?_
        refine lv_iload_n hx hb d_MS_compress_158 rfl (lv_at hl 3 rfl) ?_
        refine lv_bipush (v := 22) hx hb d_MS_compress_159 (by decide) ?_
        have hPc := hP.sub (ws' := []) [] rfl
        have hDc := hD.sub (ws' := []) [] (by decide) rfl
        have hFc := va_free (wc := []) hD hS hA [] rfl
        refine va_calli (va_runS (As := [.int q1, .int 22]) (rest := [.int ((sh_rr q1 2) ^^^ (sh_rr q1 13))]) ⟨hx, hb, hml, hown, hts⟩ (m_Ig_rotR l dC dI cI cB cL cZ cR q1 22 H.size ) ⟨callB_of 2 hts (xg_in gw_1807) rfl rfl rfl (hts _ gw_25) (hts _ gw_1805) (by decide +kernel) ⟨Nat.le_of_ble_eq_true rfl, Nat.le_of_ble_eq_true rfl⟩, hts _ gw_1806⟩ ⟨xw_blind, fun U hU hW => ⟨rfl, by rw [hU], by rw [hU]; exact hPc, va_K.moved hW.alike hK, hDc.weaken (fun _ _ _ _ => trivial)⟩⟩ rfl rfl hl.1 rfl (lv_room (Nat.le_of_ble_eq_true rfl)) d_MS_compress_161 ⟨Nat.le_of_ble_eq_true rfl, Nat.le_of_ble_eq_true rfl⟩) hS (fun q _ h => hFc q h) hFc (fun r9 u t H1 locs ht hvm hw hB hz1 hk1 hS => ?_)
        obtain ⟨hP1, hK1, hD1⟩ := hB
        rw [ht] at hP1
        obtain ⟨hP, hD⟩ := va_join (wr := [(h, .inr (13, [.ref sm, .ref wd, ms_size, ms_block, ms_gathered, ms_filled, ms_total, ms_blocks])), (sm, .inl (cI, 8, .inl f)), (wd, .inl (cI, 64, .inl w1)), (bl, .inl (cB, 64, .inl b))]) (w1 := []) hP hD [] [0, 1, 2, 3] rfl rfl (by decide) (by decide) hk1 hFc hP1 hD1
        generalize H1 = H at hP hS ⊢
        have hP : va_P (dC, dI) classes [(h, .inr (13, [.ref sm, .ref wd, ms_size, ms_block, ms_gathered, ms_filled, ms_total, ms_blocks])), (sm, .inl (cI, 8, .inl f)), (wd, .inl (cI, 64, .inl w1)), (bl, .inl (cB, 64, .inl b))] H := hP
        have hD : va_D A [(h, .inr (13, [.ref sm, .ref wd, ms_size, ms_block, ms_gathered, ms_filled, ms_total, ms_blocks])), (sm, .inl (cI, 8, .inl f)), (wd, .inl (cI, 64, .inl w1)), (bl, .inl (cB, 64, .inl b))] := hD
        subst hw
        refine lv_ixor hx hb d_MS_compress_164 ?_
        refine lv_topi (fun x_4 ex_4 => ?_)
        obtain rfl : x_4 = sh_left q1 := by rw [ex_4]; first | done | (rw [sh_rr_2, sh_rr_13, sh_rr_22]; rfl)
        refine lv_istore (lv' := [(14, .int (sh_left q1)), (13, .int (sh_one q5 q6 q7 q8 (sh_ROUND k) (w1 k))), (12, .int (sh_right q5)), (0, .ref h), (3, .int q1), (4, .int q2), (5, .int q3), (6, .int q4), (7, .int q5), (8, .int q6), (9, .int q7), (10, .int q8), (11, .int (nI k))]) hx hb d_MS_compress_165 hl (by decide) rfl (fun ls hl => ?_)
        refine lv_iload hx hb d_MS_compress_167 (lv_at hl 0 rfl) ?_
        refine lv_iload_n hx hb d_MS_compress_169 rfl (lv_at hl 4 rfl) ?_
        refine lv_iload hx hb d_MS_compress_170 (lv_at hl 5 rfl) ?_
        refine lv_iand hx hb d_MS_compress_172 ?_
        refine lv_iload_n hx hb d_MS_compress_173 rfl (lv_at hl 4 rfl) ?_
        refine lv_iload hx hb d_MS_compress_174 (lv_at hl 6 rfl) ?_
        refine lv_iand hx hb d_MS_compress_176 ?_
        refine lv_ixor hx hb d_MS_compress_177 ?_
        refine lv_iload hx hb d_MS_compress_178 (lv_at hl 5 rfl) ?_
        refine lv_iload hx hb d_MS_compress_180 (lv_at hl 6 rfl) ?_
        refine lv_iand hx hb d_MS_compress_182 ?_
        refine lv_ixor hx hb d_MS_compress_183 ?_
        refine lv_iadd hx hb d_MS_compress_184 ?_
        refine lv_topi (fun x_5 ex_5 => ?_)
        obtain rfl : x_5 = sh_two q1 q2 q3 := by rw [ex_5]; first | done | (rfl)
        refine lv_istore (lv' := [(15, .int (sh_two q1 q2 q3)), (14, .int (sh_left q1)), (13, .int (sh_one q5 q6 q7 q8 (sh_ROUND k) (w1 k))), (12, .int (sh_right q5)), (0, .ref h), (3, .int q1), (4, .int q2), (5, .int q3), (6, .int q4), (7, .int q5), (8, .int q6), (9, .int q7), (10, .int q8), (11, .int (nI k))]) hx hb d_MS_compress_185 hl (by decide) rfl (fun ls hl => ?_)
        refine lv_iload hx hb d_MS_compress_187 (lv_at hl 11 rfl) ?_
        refine lv_istore (lv' := [(10, .int q7), (15, .int (sh_two q1 q2 q3)), (14, .int (sh_left q1)), (13, .int (sh_one q5 q6 q7 q8 (sh_ROUND k) (w1 k))), (12, .int (sh_right q5)), (0, .ref h), (3, .int q1), (4, .int q2), (5, .int q3), (6, .int q4), (7, .int q5), (8, .int q6), (9, .int q7), (11, .int (nI k))]) hx hb d_MS_compress_189 hl (by decide) rfl (fun ls hl => ?_)
        refine lv_iload hx hb d_MS_compress_191 (lv_at hl 11 rfl) ?_
        refine lv_istore (lv' := [(9, .int q6), (10, .int q7), (15, .int (sh_two q1 q2 q3)), (14, .int (sh_left q1)), (13, .int (sh_one q5 q6 q7 q8 (sh_ROUND k) (w1 k))), (12, .int (sh_right q5)), (0, .ref h), (3, .int q1), (4, .int q2), (5, .int q3), (6, .int q4), (7, .int q5), (8, .int q6), (11, .int (nI k))]) hx hb d_MS_compress_193 hl (by decide) rfl (fun ls hl => ?_)
        refine lv_iload hx hb d_MS_compress_195 (lv_at hl 11 rfl) ?_
        refine lv_istore (lv' := [(8, .int q5), (9, .int q6), (10, .int q7), (15, .int (sh_two q1 q2 q3)), (14, .int (sh_left q1)), (13, .int (sh_one q5 q6 q7 q8 (sh_ROUND k) (w1 k))), (12, .int (sh_right q5)), (0, .ref h), (3, .int q1), (4, .int q2), (5, .int q3), (6, .int q4), (7, .int q5), (11, .int (nI k))]) hx hb d_MS_compress_197 hl (by decide) rfl (fun ls hl => ?_)
        refine lv_iload hx hb d_MS_compress_199 (lv_at hl 11 rfl) ?_
        refine lv_iload hx hb d_MS_compress_201 (lv_at hl 5 rfl) ?_
        refine lv_iadd hx hb d_MS_compress_203 ?_
        refine lv_istore (lv' := [(7, .int (q4 + (sh_one q5 q6 q7 q8 (sh_ROUND k) (w1 k)))), (8, .int q5), (9, .int q6), (10, .int q7), (15, .int (sh_two q1 q2 q3)), (14, .int (sh_left q1)), (13, .int (sh_one q5 q6 q7 q8 (sh_ROUND k) (w1 k))), (12, .int (sh_right q5)), (0, .ref h), (3, .int q1), (4, .int q2), (5, .int q3), (6, .int q4), (11, .int (nI k))]) hx hb d_MS_compress_204 hl (by decide) rfl (fun ls hl => ?_)
        refine lv_iload hx hb d_MS_compress_206 (lv_at hl 11 rfl) ?_
        refine lv_istore (lv' := [(6, .int q3), (7, .int (q4 + (sh_one q5 q6 q7 q8 (sh_ROUND k) (w1 k)))), (8, .int q5), (9, .int q6), (10, .int q7), (15, .int (sh_two q1 q2 q3)), (14, .int (sh_left q1)), (13, .int (sh_one q5 q6 q7 q8 (sh_ROUND k) (w1 k))), (12, .int (sh_right q5)), (0, .ref h), (3, .int q1), (4, .int q2), (5, .int q3), (11, .int (nI k))]) hx hb d_MS_compress_208 hl (by decide) rfl (fun ls hl => ?_)
        refine lv_iload hx hb d_MS_compress_210 (lv_at hl 11 rfl) ?_
        refine lv_istore (lv' := [(5, .int q2), (6, .int q3), (7, .int (q4 + (sh_one q5 q6 q7 q8 (sh_ROUND k) (w1 k)))), (8, .int q5), (9, .int q6), (10, .int q7), (15, .int (sh_two q1 q2 q3)), (14, .int (sh_left q1)), (13, .int (sh_one q5 q6 q7 q8 (sh_ROUND k) (w1 k))), (12, .int (sh_right q5)), (0, .ref h), (3, .int q1), (4, .int q2), (11, .int (nI k))]) hx hb d_MS_compress_212 hl (by decide) rfl (fun ls hl => ?_)
        refine lv_iload_n hx hb d_MS_compress_214 rfl (lv_at hl 11 rfl) ?_
        refine lv_istore (lv' := [(4, .int q1), (5, .int q2), (6, .int q3), (7, .int (q4 + (sh_one q5 q6 q7 q8 (sh_ROUND k) (w1 k)))), (8, .int q5), (9, .int q6), (10, .int q7), (15, .int (sh_two q1 q2 q3)), (14, .int (sh_left q1)), (13, .int (sh_one q5 q6 q7 q8 (sh_ROUND k) (w1 k))), (12, .int (sh_right q5)), (0, .ref h), (3, .int q1), (11, .int (nI k))]) hx hb d_MS_compress_215 hl (by decide) rfl (fun ls hl => ?_)
        refine lv_iload hx hb d_MS_compress_217 (lv_at hl 9 rfl) ?_
        refine lv_iload hx hb d_MS_compress_219 (lv_at hl 7 rfl) ?_
        refine lv_iadd hx hb d_MS_compress_221 ?_
        refine lv_istore_n (lv' := [(3, .int ((sh_one q5 q6 q7 q8 (sh_ROUND k) (w1 k)) + (sh_two q1 q2 q3))), (4, .int q1), (5, .int q2), (6, .int q3), (7, .int (q4 + (sh_one q5 q6 q7 q8 (sh_ROUND k) (w1 k)))), (8, .int q5), (9, .int q6), (10, .int q7), (15, .int (sh_two q1 q2 q3)), (14, .int (sh_left q1)), (13, .int (sh_one q5 q6 q7 q8 (sh_ROUND k) (w1 k))), (12, .int (sh_right q5)), (0, .ref h), (11, .int (nI k))]) hx hb d_MS_compress_222 rfl hl (by decide) rfl (fun ls hl => ?_)
        refine lv_iinc (v := nI (k + 1)) (lv' := [(11, .int (nI (k + 1))), (3, .int ((sh_one q5 q6 q7 q8 (sh_ROUND k) (w1 k)) + (sh_two q1 q2 q3))), (4, .int q1), (5, .int q2), (6, .int q3), (7, .int (q4 + (sh_one q5 q6 q7 q8 (sh_ROUND k) (w1 k)))), (8, .int q5), (9, .int q6), (10, .int q7), (15, .int (sh_two q1 q2 q3)), (14, .int (sh_left q1)), (13, .int (sh_one q5 q6 q7 q8 (sh_ROUND k) (w1 k))), (12, .int (sh_right q5)), (0, .ref h)]) hx hb d_MS_compress_223 hl (k := 13) rfl (by exact nI_1 k) (by decide) rfl (fun ls hl => ?_)
        refine lv_goto (tgt := 74) hx hb d_MS_compress_226 (by decide) ?_
        exact ih_74 (k + 1) (sh_one q5 q6 q7 q8 (sh_ROUND k) (w1 k) + sh_two q1 q2 q3) q1 q2 q3 (q4 + sh_one q5 q6 q7 q8 (sh_ROUND k) (w1 k)) q5 q6 q7 _ _ _ (by omega) (by omega) (by show sh_round _ _ (sh_rounds w1 k (sh_in f)) = _; rw [hq]; rfl) hP hD hS (lv_sub hl [13, 1, 2, 3, 4, 5, 6, 7, 8, 0] rfl)
  exact loop_74 _ 0 (f 0) (f 1) (f 2) (f 3) (f 4) (f 5) (f 6) (f 7) _ _ _ (Nat.lt_succ_self _) (Nat.zero_le _) (rfl) (hP.sub [1, 0, 2, 3] rfl) (hD.sub [1, 0, 2, 3] (by decide) rfl) hS (lv_sub hl [9, 8, 7, 6, 5, 4, 3, 2, 1, 0] rfl)
set_option maxHeartbeats 4000000 in
set_option maxRecDepth 100000 in
/-- turn of the model -/
theorem m_MD_turn (l : Launch) (dC : Nat → ClassId) (dI : Nat → Nat → Nat) (cI cB cL cZ cR : ClassId) (h sm wd bl : Nat) (f w b : Nat → Int32) (F bk : Int32) (tl : Int64) (sz : Nat) : Met l y_MD_turn ws_MD_turn ({ frames := 3, cells := 0, slots := 0, locals := 180 }) (xw_Px dC dI [(cI, .int), (cB, .byte), (cL, .long), (cZ, .boolean), (cR, .object "PatchStore$Repository")] [.ref h] [(h, .inr (13, [.ref sm, .ref wd, .int 32, .int 64, .ref bl, .int F, .long tl, .int bk])), (sm, .inl (cI, 8, .inl f)), (wd, .inl (cI, 64, .inl w)), (bl, .inl (cB, 64, .inl b))] sz) (va_Qv (fun _ : Nat → Int32 => True) (fun u t => xw_B dC dI [(cI, .int), (cB, .byte), (cL, .long), (cZ, .boolean), (cR, .object "PatchStore$Repository")] (va_A [(h, .inr (13, [.ref sm, .ref wd, .int 32, .int 64, .ref bl, .int F, .long tl, .int bk])), (sm, .inl (cI, 8, .inl f)), (wd, .inl (cI, 64, .inl w)), (bl, .inl (cB, 64, .inl b))] sz) [(h, .inr (13, [.ref sm, .ref wd, .int 32, .int 64, .ref bl, .int 0, .long tl, .int (bk + 1)])), (sm, .inl (cI, 8, .inl (sh_comp f b))), (wd, .inl (cI, 64, .inl u)), (bl, .inl (cB, 64, .inl b))] t) (va_A [(h, .inr (13, [.ref sm, .ref wd, .int 32, .int 64, .ref bl, .int F, .long tl, .int bk])), (sm, .inl (cI, 8, .inl f)), (wd, .inl (cI, 64, .inl w)), (bl, .inl (cB, 64, .inl b))] sz)) 0 0 (va_A [(h, .inr (13, [.ref sm, .ref wd, .int 32, .int 64, .ref bl, .int F, .long tl, .int bk])), (sm, .inl (cI, 8, .inl f)), (wd, .inl (cI, 64, .inl w)), (bl, .inl (cB, 64, .inl b))] sz) := by
  refine Met.ofW (cc := prog_15_method_10_code) (maxL := 1) (ret := none) (by decide) rfl ?_
  intro p e s m args below meth c s₁ B hml hv
  obtain ⟨rfl, hsz, hP, hK, hD0, hN, hTh⟩ := hv
  have hx := B.exec
  have hb := B.bytes
  have hr := B.returns
  have hts0 := atoms_spec (ws := ws_MD_turn) B.pre
  have hts : ∀ w ∈ xg_1, w.before _ s = true := fun w h => hts0 w (List.mem_cons_of_mem _ h)
  have hown : s.vm.findClass "PatchStoreModel$Digest" = some m.cls := findClass_of_methodNamed B.named
  have hlocks := B.notSynchronized
  subst hsz
  have hD := hD0.self (sz := s.heap.size)
  generalize hAe : va_A [(h, .inr (13, [.ref sm, .ref wd, .int 32, .int 64, .ref bl, .int F, .long tl, .int bk])), (sm, .inl (cI, 8, .inl f)), (wd, .inl (cI, 64, .inl w)), (bl, .inl (cB, 64, .inl b))] s.heap.size = A at hD hTh ⊢
  have hA : ∀ q : Nat, s.heap.size ≤ q → A q := fun q h => by rw [← hAe]; exact Or.inr h
  have hS : va_S A s.heap s.heap [] := va_S.rf
  have hl := lv_entry ([.ref h]) (n := 1) (Nat.le_of_ble_eq_true rfl)
  rw [lg_entry_eq]
  generalize (lg_sl ([.ref h]) ++ List.replicate (1 - (lg_sl ([.ref h])).length) Slot.unset).toArray = ls at hl ⊢
  have hl : lv_has ls 1 [(0, .ref h)] := hl
  refine lv_aload_n hx hb d_MD_turn_0 rfl (lv_at hl 0 rfl) ?_
  refine lv_aload_n hx hb d_MD_turn_1 rfl (lv_at hl 0 rfl) ?_
  refine va_get (D := (dC, dI)) (ci := 13) (v := .ref bl) (C := R_MS) (T := F_MS) (N := 8) hx hb hts i_MS hown hK hP 0 rfl rfl 4 (by decide) (hts _ gw_1394) (fun _ h9 => h9) rfl d_MD_turn_2 ?_
  refine lv_iconst (v := 0) hx hb d_MD_turn_5 (by decide) ?_
  have hPc := hP.sub (ws' := [(h, .inr (13, [.ref sm, .ref wd, .int 32, .int 64, .ref bl, .int F, .long tl, .int bk])), (sm, .inl (cI, 8, .inl f)), (wd, .inl (cI, 64, .inl w)), (bl, .inl (cB, 64, .inl b))]) [0, 1, 2, 3] rfl
  have hDc := hD.sub (ws' := [(h, .inr (13, [.ref sm, .ref wd, .int 32, .int 64, .ref bl, .int F, .long tl, .int bk])), (sm, .inl (cI, 8, .inl f)), (wd, .inl (cI, 64, .inl w)), (bl, .inl (cB, 64, .inl b))]) [0, 1, 2, 3] (by decide) rfl
  have hFc := va_free (wc := [(h, .inr (13, [.ref sm, .ref wd, .int 32, .int 64, .ref bl, .int F, .long tl, .int bk])), (sm, .inl (cI, 8, .inl f)), (wd, .inl (cI, 64, .inl w)), (bl, .inl (cB, 64, .inl b))]) hD hS hA [0, 1, 2, 3] rfl
  refine va_callv (va_runU (As := [.ref bl, .int 0]) (rest := []) ⟨hx, hb, hml, hown, hts⟩ (m_MS_compress l dC dI cI cB cL cZ cR h sm wd bl (.int 32) (.int 64) (.ref bl) (.int F) (.long tl) (.int bk) f w b s.heap.size ) (va_cwA 2 hts (xg_U gw_1792 gw_1794 gw_1795 gw_1796 gw_15 gw_1797) rfl rfl rfl (hN _ gn_1793) (by decide +kernel) ⟨Nat.le_of_ble_eq_true rfl, Nat.le_of_ble_eq_true rfl⟩) ⟨xw_blindx, va_recv hK hPc (ci := 13) (q0 := 0) rfl rfl, fun U hU hW => ⟨rfl, by rw [hU], by rw [hU]; exact hPc, va_K.moved hW.alike hK, hDc.weaken (fun _ _ _ _ => trivial), xg_N.warm hW hN, by rw [hU]; exact ((hTh.kept (fun a h1 h2 => hS.2.1 a h1 h2)).narrow hFc).moved hW.alike⟩⟩ rfl rfl hl.1 rfl (lv_room (Nat.le_of_ble_eq_true rfl)) d_MD_turn_6 ⟨Nat.le_of_ble_eq_true rfl, Nat.le_of_ble_eq_true rfl⟩) hS (fun q _ h => hFc q h) hFc (fun w1 t H1 locs ht hvm hw hB hz1 hk1 hS => ?_)
  obtain ⟨hP1, hK1, hD1⟩ := hB
  rw [ht] at hP1
  obtain ⟨hP, hD⟩ := va_join (wr := []) (w1 := [(h, .inr (13, [.ref sm, .ref wd, .int 32, .int 64, .ref bl, .int F, .long tl, .int bk])), (sm, .inl (cI, 8, .inl (sh_comp f b))), (wd, .inl (cI, 64, .inl w1)), (bl, .inl (cB, 64, .inl b))]) hP hD [0, 1, 2, 3] [] rfl rfl (by decide) (by decide) hk1 hFc hP1 hD1
  generalize H1 = H at hP hS ⊢
  have hP : va_P (dC, dI) classes [(h, .inr (13, [.ref sm, .ref wd, .int 32, .int 64, .ref bl, .int F, .long tl, .int bk])), (sm, .inl (cI, 8, .inl (sh_comp f b))), (wd, .inl (cI, 64, .inl w1)), (bl, .inl (cB, 64, .inl b))] H := hP
  have hD : va_D A [(h, .inr (13, [.ref sm, .ref wd, .int 32, .int 64, .ref bl, .int F, .long tl, .int bk])), (sm, .inl (cI, 8, .inl (sh_comp f b))), (wd, .inl (cI, 64, .inl w1)), (bl, .inl (cB, 64, .inl b))] := hD
  refine lv_aload_n hx hb d_MD_turn_9 rfl (lv_at hl 0 rfl) ?_
  refine lv_dup hx hb d_MD_turn_10 rfl ?_
  refine va_get (D := (dC, dI)) (ci := 13) (v := .int bk) (C := R_MS) (T := F_MS) (N := 8) hx hb hts i_MS hown hK hP 0 rfl rfl 7 (by decide) (hts _ gw_1397) (fun _ h9 => h9) rfl d_MD_turn_11 ?_
  refine lv_iconst (v := 1) hx hb d_MD_turn_14 (by decide) ?_
  refine lv_iadd hx hb d_MD_turn_15 ?_
  refine va_put (D := (dC, dI)) (ci := 13) (v := .int (bk + 1)) (ty := .int) (C := R_MS) (T := F_MS) (N := 8) hx hb hts i_MS t_MS t_MS_ok n_MS hown hK hP hD hS 0 rfl rfl 7 (by decide) (hts _ gw_1397) (fun _ h9 => h9) rfl (by decide +kernel) rfl rfl (Nat.le_of_ble_eq_true rfl) d_MD_turn_16 (fun H locs hP hD hS => ?_)
  have hP : va_P (dC, dI) classes [(h, .inr (13, [.ref sm, .ref wd, .int 32, .int 64, .ref bl, .int F, .long tl, .int (bk + 1)])), (sm, .inl (cI, 8, .inl (sh_comp f b))), (wd, .inl (cI, 64, .inl w1)), (bl, .inl (cB, 64, .inl b))] H := hP
  have hD : va_D A [(h, .inr (13, [.ref sm, .ref wd, .int 32, .int 64, .ref bl, .int F, .long tl, .int (bk + 1)])), (sm, .inl (cI, 8, .inl (sh_comp f b))), (wd, .inl (cI, 64, .inl w1)), (bl, .inl (cB, 64, .inl b))] := hD
  refine lv_aload_n hx hb d_MD_turn_19 rfl (lv_at hl 0 rfl) ?_
  refine lv_iconst (v := 0) hx hb d_MD_turn_20 (by decide) ?_
  refine va_put (D := (dC, dI)) (ci := 13) (v := .int 0) (ty := .int) (C := R_MS) (T := F_MS) (N := 8) hx hb hts i_MS t_MS t_MS_ok n_MS hown hK hP hD hS 0 rfl rfl 5 (by decide) (hts _ gw_1395) (fun _ h9 => h9) rfl (by decide +kernel) rfl rfl (Nat.le_of_ble_eq_true rfl) d_MD_turn_21 (fun H locs hP hD hS => ?_)
  have hP : va_P (dC, dI) classes [(h, .inr (13, [.ref sm, .ref wd, .int 32, .int 64, .ref bl, .int 0, .long tl, .int (bk + 1)])), (sm, .inl (cI, 8, .inl (sh_comp f b))), (wd, .inl (cI, 64, .inl w1)), (bl, .inl (cB, 64, .inl b))] H := hP
  have hD : va_D A [(h, .inr (13, [.ref sm, .ref wd, .int 32, .int 64, .ref bl, .int 0, .long tl, .int (bk + 1)])), (sm, .inl (cI, 8, .inl (sh_comp f b))), (wd, .inl (cI, 64, .inl w1)), (bl, .inl (cB, 64, .inl b))] := hD
  exact W.vret hx hb hr (fun t ht hW => ⟨⟨w1, rfl, trivial, by rw [ht]; exact hP, va_K.moved hW.alike hK, hD⟩, hS.F ht⟩) hS.2.2 d_MD_turn_24
set_option maxHeartbeats 4000000 in
set_option maxRecDepth 100000 in
/-- one of the model -/
theorem m_MD_one (l : Launch) (dC : Nat → ClassId) (dI : Nat → Nat → Nat) (cI cB cL cZ cR : ClassId) (h sm wd bl : Nat) (f w b : Nat → Int32) (F : Nat) (bk : Int32) (tl : Int64) (x : Int32) (sz : Nat) (hF : F < 64) : Met l y_MD_one ws_MD_one ({ frames := 4, cells := 0, slots := 0, locals := 240 }) (xw_Px dC dI [(cI, .int), (cB, .byte), (cL, .long), (cZ, .boolean), (cR, .object "PatchStore$Repository")] [.ref h, .int x] [(h, .inr (13, [.ref sm, .ref wd, .int 32, .int 64, .ref bl, .int (nI F), .long tl, .int bk])), (sm, .inl (cI, 8, .inl f)), (wd, .inl (cI, 64, .inl w)), (bl, .inl (cB, 64, .inl b))] sz) (va_Qv (fun u : (Nat → Int32) × (Nat → Int32) × (Nat → Int32) × Nat × Int32 => (F + 1 < 64 ∧ u = (f, w, upd b F (x : Int32).toInt8.toInt32, F + 1, bk)) ∨ (F + 1 = 64 ∧ ∃ w1, u = (sh_comp f (upd b F (x : Int32).toInt8.toInt32), w1, upd b F (x : Int32).toInt8.toInt32, 0, bk + 1))) (fun u t => xw_B dC dI [(cI, .int), (cB, .byte), (cL, .long), (cZ, .boolean), (cR, .object "PatchStore$Repository")] (va_A [(h, .inr (13, [.ref sm, .ref wd, .int 32, .int 64, .ref bl, .int (nI F), .long tl, .int bk])), (sm, .inl (cI, 8, .inl f)), (wd, .inl (cI, 64, .inl w)), (bl, .inl (cB, 64, .inl b))] sz) [(h, .inr (13, [.ref sm, .ref wd, .int 32, .int 64, .ref bl, .int (nI u.2.2.2.1), .long (tl + 1), .int u.2.2.2.2])), (sm, .inl (cI, 8, .inl u.1)), (wd, .inl (cI, 64, .inl u.2.1)), (bl, .inl (cB, 64, .inl u.2.2.1))] t) (va_A [(h, .inr (13, [.ref sm, .ref wd, .int 32, .int 64, .ref bl, .int (nI F), .long tl, .int bk])), (sm, .inl (cI, 8, .inl f)), (wd, .inl (cI, 64, .inl w)), (bl, .inl (cB, 64, .inl b))] sz)) 0 0 (va_A [(h, .inr (13, [.ref sm, .ref wd, .int 32, .int 64, .ref bl, .int (nI F), .long tl, .int bk])), (sm, .inl (cI, 8, .inl f)), (wd, .inl (cI, 64, .inl w)), (bl, .inl (cB, 64, .inl b))] sz) := by
  refine Met.ofW (cc := prog_15_method_9_code) (maxL := 2) (ret := none) (by decide) rfl ?_
  intro p e s m args below meth c s₁ B hml hv
  obtain ⟨rfl, hsz, hP, hK, hD0, hN, hTh⟩ := hv
  have hx := B.exec
  have hb := B.bytes
  have hr := B.returns
  have hts0 := atoms_spec (ws := ws_MD_one) B.pre
  have hts : ∀ w ∈ xg_1, w.before _ s = true := fun w h => hts0 w (List.mem_cons_of_mem _ h)
  have hown : s.vm.findClass "PatchStoreModel$Digest" = some m.cls := findClass_of_methodNamed B.named
  have hlocks := B.notSynchronized
  subst hsz
  have hD := hD0.self (sz := s.heap.size)
  generalize hAe : va_A [(h, .inr (13, [.ref sm, .ref wd, .int 32, .int 64, .ref bl, .int (nI F), .long tl, .int bk])), (sm, .inl (cI, 8, .inl f)), (wd, .inl (cI, 64, .inl w)), (bl, .inl (cB, 64, .inl b))] s.heap.size = A at hD hTh ⊢
  have hA : ∀ q : Nat, s.heap.size ≤ q → A q := fun q h => by rw [← hAe]; exact Or.inr h
  have hS : va_S A s.heap s.heap [] := va_S.rf
  have hl := lv_entry ([.ref h, .int x]) (n := 2) (Nat.le_of_ble_eq_true rfl)
  rw [lg_entry_eq]
  generalize (lg_sl ([.ref h, .int x]) ++ List.replicate (2 - (lg_sl ([.ref h, .int x])).length) Slot.unset).toArray = ls at hl ⊢
  have hl : lv_has ls 2 [(0, .ref h), (1, .int x)] := hl
  refine lv_aload_n hx hb d_MD_one_0 rfl (lv_at hl 0 rfl) ?_
  refine lv_dup hx hb d_MD_one_1 rfl ?_
  refine va_get (D := (dC, dI)) (ci := 13) (v := .long tl) (C := R_MS) (T := F_MS) (N := 8) hx hb hts i_MS hown hK hP 0 rfl rfl 6 (by decide) (hts _ gw_1396) (fun _ h9 => h9) rfl d_MD_one_2 ?_
  refine lv_lconst (v := 1) hx hb d_MD_one_5 (by decide) ?_
  refine lv_ladd hx hb d_MD_one_6 ?_
  refine va_put (D := (dC, dI)) (ci := 13) (v := .long (tl + 1)) (ty := .long) (C := R_MS) (T := F_MS) (N := 8) hx hb hts i_MS t_MS t_MS_ok n_MS hown hK hP hD hS 0 rfl rfl 6 (by decide) (hts _ gw_1396) (fun _ h9 => h9) rfl (by decide +kernel) rfl rfl (Nat.le_of_ble_eq_true rfl) d_MD_one_7 (fun H locs hP hD hS => ?_)
  have hP : va_P (dC, dI) classes [(h, .inr (13, [.ref sm, .ref wd, .int 32, .int 64, .ref bl, .int (nI F), .long (tl + 1), .int bk])), (sm, .inl (cI, 8, .inl f)), (wd, .inl (cI, 64, .inl w)), (bl, .inl (cB, 64, .inl b))] H := hP
  have hD : va_D A [(h, .inr (13, [.ref sm, .ref wd, .int 32, .int 64, .ref bl, .int (nI F), .long (tl + 1), .int bk])), (sm, .inl (cI, 8, .inl f)), (wd, .inl (cI, 64, .inl w)), (bl, .inl (cB, 64, .inl b))] := hD
  refine lv_aload_n hx hb d_MD_one_10 rfl (lv_at hl 0 rfl) ?_
  refine va_get (D := (dC, dI)) (ci := 13) (v := .ref bl) (C := R_MS) (T := F_MS) (N := 8) hx hb hts i_MS hown hK hP 0 rfl rfl 4 (by decide) (hts _ gw_1394) (fun _ h9 => h9) rfl d_MD_one_11 ?_
  refine lv_aload_n hx hb d_MD_one_14 rfl (lv_at hl 0 rfl) ?_
  refine lv_dup hx hb d_MD_one_15 rfl ?_
  refine va_get (D := (dC, dI)) (ci := 13) (v := .int (nI F)) (C := R_MS) (T := F_MS) (N := 8) hx hb hts i_MS hown hK hP 0 rfl rfl 5 (by decide) (hts _ gw_1395) (fun _ h9 => h9) rfl d_MD_one_16 ?_
  refine lv_dup_x1 hx hb d_MD_one_19 rfl rfl ?_
  refine lv_iconst (v := 1) hx hb d_MD_one_20 (by decide) ?_
  refine lv_iadd hx hb d_MD_one_21 ?_
  refine lv_topi (fun x_1 ex_1 => ?_)
  obtain rfl : x_1 = nI (F + 1) := by rw [ex_1]; first | done | (exact nI_add F 1)
  refine va_put (D := (dC, dI)) (ci := 13) (v := .int (nI (F + 1))) (ty := .int) (C := R_MS) (T := F_MS) (N := 8) hx hb hts i_MS t_MS t_MS_ok n_MS hown hK hP hD hS 0 rfl rfl 5 (by decide) (hts _ gw_1395) (fun _ h9 => h9) rfl (by decide +kernel) rfl rfl (Nat.le_of_ble_eq_true rfl) d_MD_one_22 (fun H locs hP hD hS => ?_)
  have hP : va_P (dC, dI) classes [(h, .inr (13, [.ref sm, .ref wd, .int 32, .int 64, .ref bl, .int (nI (F + 1)), .long (tl + 1), .int bk])), (sm, .inl (cI, 8, .inl f)), (wd, .inl (cI, 64, .inl w)), (bl, .inl (cB, 64, .inl b))] H := hP
  have hD : va_D A [(h, .inr (13, [.ref sm, .ref wd, .int 32, .int 64, .ref bl, .int (nI (F + 1)), .long (tl + 1), .int bk])), (sm, .inl (cI, 8, .inl f)), (wd, .inl (cI, 64, .inl w)), (bl, .inl (cB, 64, .inl b))] := hD
  refine lv_iload_n hx hb d_MD_one_25 rfl (lv_at hl 1 rfl) ?_
  refine lv_i2b hx hb d_MD_one_26 rfl ?_
  refine va_bast hx hb hK hP hD hS 3 1 rfl rfl (vp_in_nI (by omega) (by omega)) d_MD_one_27 (fun H locs hP hD hS => ?_)
  rw [show (nI F).toNatClampNeg = F from nI_clamp (by omega)] at hP hD
  rw [pk_vb] at hP hD
  have hP : va_P (dC, dI) classes [(h, .inr (13, [.ref sm, .ref wd, .int 32, .int 64, .ref bl, .int (nI (F + 1)), .long (tl + 1), .int bk])), (sm, .inl (cI, 8, .inl f)), (wd, .inl (cI, 64, .inl w)), (bl, .inl (cB, 64, .inl (upd b F ((x : Int32).toInt8.toInt32))))] H := hP
  have hD : va_D A [(h, .inr (13, [.ref sm, .ref wd, .int 32, .int 64, .ref bl, .int (nI (F + 1)), .long (tl + 1), .int bk])), (sm, .inl (cI, 8, .inl f)), (wd, .inl (cI, 64, .inl w)), (bl, .inl (cB, 64, .inl (upd b F ((x : Int32).toInt8.toInt32))))] := hD
  refine lv_aload_n hx hb d_MD_one_28 rfl (lv_at hl 0 rfl) ?_
  refine va_get (D := (dC, dI)) (ci := 13) (v := .int (nI (F + 1))) (C := R_MS) (T := F_MS) (N := 8) hx hb hts i_MS hown hK hP 0 rfl rfl 5 (by decide) (hts _ gw_1395) (fun _ h9 => h9) rfl d_MD_one_29 ?_
  refine lv_aload_n hx hb d_MD_one_32 rfl (lv_at hl 0 rfl) ?_
  refine va_get (D := (dC, dI)) (ci := 13) (v := .int 64) (C := R_MS) (T := F_MS) (N := 8) hx hb hts i_MS hown hK hP 0 rfl rfl 3 (by decide) (hts _ gw_1393) (fun _ h9 => h9) rfl d_MD_one_33 ?_
  refine lv_icmp_ne (tgt := 43) hx hb d_MD_one_36 (by decide) (fun c_36 => ?_) (fun c_36 => ?_)
  · have hF2 : F + 1 < 64 := by rcases Nat.lt_or_ge (F + 1) 64 with z | z; exact z; exact absurd (show nI (F + 1) = 64 by rw [show F + 1 = 64 by omega]; rfl) c_36
    exact W.vret hx hb hr (fun t ht hW => ⟨⟨(f, w, upd b F (x : Int32).toInt8.toInt32, F + 1, bk), rfl, Or.inl ⟨hF2, rfl⟩, by rw [ht]; exact hP, va_K.moved hW.alike hK, hD⟩, hS.F ht⟩) hS.2.2 d_MD_one_43
  · have hF2 : F + 1 = 64 := (nI_eq (a := F + 1) (b := 64) (by omega) (by omega)).mp c_36
    refine lv_aload_n hx hb d_MD_one_39 rfl (lv_at hl 0 rfl) ?_
    have hPc := hP.sub (ws' := [(h, .inr (13, [.ref sm, .ref wd, .int 32, .int 64, .ref bl, .int (nI (F + 1)), .long (tl + 1), .int bk])), (sm, .inl (cI, 8, .inl f)), (wd, .inl (cI, 64, .inl w)), (bl, .inl (cB, 64, .inl (upd b F ((x : Int32).toInt8.toInt32))))]) [0, 1, 2, 3] rfl
    have hDc := hD.sub (ws' := [(h, .inr (13, [.ref sm, .ref wd, .int 32, .int 64, .ref bl, .int (nI (F + 1)), .long (tl + 1), .int bk])), (sm, .inl (cI, 8, .inl f)), (wd, .inl (cI, 64, .inl w)), (bl, .inl (cB, 64, .inl (upd b F ((x : Int32).toInt8.toInt32))))]) [0, 1, 2, 3] (by decide) rfl
    have hFc := va_free (wc := [(h, .inr (13, [.ref sm, .ref wd, .int 32, .int 64, .ref bl, .int (nI (F + 1)), .long (tl + 1), .int bk])), (sm, .inl (cI, 8, .inl f)), (wd, .inl (cI, 64, .inl w)), (bl, .inl (cB, 64, .inl (upd b F ((x : Int32).toInt8.toInt32))))]) hD hS hA [0, 1, 2, 3] rfl
    refine va_callv (xp_runP (C := "PatchStoreModel$Sha256") (As := []) (rest := []) ⟨hx, hb, hml, hown, hts⟩ (m_MD_turn l dC dI cI cB cL cZ cR h sm wd bl f w (upd b F ((x : Int32).toInt8.toInt32)) (nI (F + 1)) bk (tl + 1) H.size ) (callB_of 0 hts (xg_in gw_1791) rfl rfl rfl (hts _ gw_14) (hts _ gw_1788) (by decide +kernel) ⟨Nat.le_of_ble_eq_true rfl, Nat.le_of_ble_eq_true rfl⟩) (hts _ gw_1790) (xp_sel (hts _ gw_1820) rfl (hN _ gn_1789) (hts _ gw_1790) (by decide)) (hN _ gn_1789) ⟨xw_blindx, va_recv hK hPc (ci := 13) (q0 := 0) rfl rfl, fun U hU hW => ⟨rfl, by rw [hU], by rw [hU]; exact hPc, va_K.moved hW.alike hK, hDc.weaken (fun _ _ _ _ => trivial), xg_N.warm hW hN, by rw [hU]; exact ((hTh.kept (fun a h1 h2 => hS.2.1 a h1 h2)).narrow hFc).moved hW.alike⟩⟩ rfl rfl hl.1 rfl (lv_room (Nat.le_of_ble_eq_true rfl)) d_MD_one_40 ⟨Nat.le_of_ble_eq_true rfl, Nat.le_of_ble_eq_true rfl⟩) hS (fun q _ h => hFc q h) hFc (fun w1 t H1 locs ht hvm hw hB hz1 hk1 hS => ?_)
    obtain ⟨hP1, hK1, hD1⟩ := hB
    rw [ht] at hP1
    obtain ⟨hP, hD⟩ := va_join (wr := []) (w1 := [(h, .inr (13, [.ref sm, .ref wd, .int 32, .int 64, .ref bl, .int 0, .long (tl + 1), .int (bk + 1)])), (sm, .inl (cI, 8, .inl (sh_comp f (upd b F ((x : Int32).toInt8.toInt32))))), (wd, .inl (cI, 64, .inl w1)), (bl, .inl (cB, 64, .inl (upd b F ((x : Int32).toInt8.toInt32))))]) hP hD [0, 1, 2, 3] [] rfl rfl (by decide) (by decide) hk1 hFc hP1 hD1
    generalize H1 = H at hP hS ⊢
    have hP : va_P (dC, dI) classes [(h, .inr (13, [.ref sm, .ref wd, .int 32, .int 64, .ref bl, .int 0, .long (tl + 1), .int (bk + 1)])), (sm, .inl (cI, 8, .inl (sh_comp f (upd b F ((x : Int32).toInt8.toInt32))))), (wd, .inl (cI, 64, .inl w1)), (bl, .inl (cB, 64, .inl (upd b F ((x : Int32).toInt8.toInt32))))] H := hP
    have hD : va_D A [(h, .inr (13, [.ref sm, .ref wd, .int 32, .int 64, .ref bl, .int 0, .long (tl + 1), .int (bk + 1)])), (sm, .inl (cI, 8, .inl (sh_comp f (upd b F ((x : Int32).toInt8.toInt32))))), (wd, .inl (cI, 64, .inl w1)), (bl, .inl (cB, 64, .inl (upd b F ((x : Int32).toInt8.toInt32))))] := hD
    exact W.vret hx hb hr (fun t ht hW => ⟨⟨(sh_comp f (upd b F (x : Int32).toInt8.toInt32), w1, upd b F (x : Int32).toInt8.toInt32, 0, bk + 1), rfl, Or.inr ⟨by omega, w1, rfl⟩, by rw [ht]; exact hP, va_K.moved hW.alike hK, hD⟩, hS.F ht⟩) hS.2.2 d_MD_one_43
set_option maxHeartbeats 4000000 in
set_option maxRecDepth 100000 in
/-- put of the model's Sha256 -/
theorem m_MS_put (l : Launch) (dC : Nat → ClassId) (dI : Nat → Nat → Nat) (cI cB cL cZ cR : ClassId) (h sm tg : Nat) (ms_w ms_size ms_block ms_gathered ms_filled ms_total ms_blocks : Value) (N a : Nat) (f g : Nat → Int32) (sz : Nat) (hN : N < 2 ^ 31) (haM : a + 32 ≤ N) : Met l y_MS_put ws_MS_put ({ frames := 0, cells := 0, slots := 0, locals := 0 }) (xw_Pc dC dI [(cI, .int), (cB, .byte), (cL, .long), (cZ, .boolean), (cR, .object "PatchStore$Repository")] [.ref h, .ref tg, .int (nI a)] [(h, .inr (13, [.ref sm, ms_w, ms_size, ms_block, ms_gathered, ms_filled, ms_total, ms_blocks])), (sm, .inl (cI, 8, .inl f)), (tg, .inl (cB, N, .inl g))] sz) (va_Qv (fun _ : Unit => True) (fun _ t => xw_B dC dI [(cI, .int), (cB, .byte), (cL, .long), (cZ, .boolean), (cR, .object "PatchStore$Repository")] (va_A [(h, .inr (13, [.ref sm, ms_w, ms_size, ms_block, ms_gathered, ms_filled, ms_total, ms_blocks])), (sm, .inl (cI, 8, .inl f)), (tg, .inl (cB, N, .inl g))] sz) [(h, .inr (13, [.ref sm, ms_w, ms_size, ms_block, ms_gathered, ms_filled, ms_total, ms_blocks])), (sm, .inl (cI, 8, .inl f)), (tg, .inl (cB, N, .inl (sh_out f a 32 g)))] t) (va_A [(h, .inr (13, [.ref sm, ms_w, ms_size, ms_block, ms_gathered, ms_filled, ms_total, ms_blocks])), (sm, .inl (cI, 8, .inl f)), (tg, .inl (cB, N, .inl g))] sz)) 0 0 (va_A [(h, .inr (13, [.ref sm, ms_w, ms_size, ms_block, ms_gathered, ms_filled, ms_total, ms_blocks])), (sm, .inl (cI, 8, .inl f)), (tg, .inl (cB, N, .inl g))] sz) := by
  refine Met.ofW (cc := prog_17_method_6_code) (maxL := 4) (ret := none) (by decide) rfl ?_
  intro p e s m args below meth c s₁ B hml hv
  obtain ⟨rfl, hsz, hP, hK, hD0⟩ := hv
  have hx := B.exec
  have hb := B.bytes
  have hr := B.returns
  have hts0 := atoms_spec (ws := ws_MS_put) B.pre
  have hts : ∀ w ∈ xg_1, w.before _ s = true := fun w h => hts0 w (List.mem_cons_of_mem _ h)
  have hown : s.vm.findClass "PatchStoreModel$Sha256" = some m.cls := findClass_of_methodNamed B.named
  have hlocks := B.notSynchronized
  subst hsz
  have hD := hD0.self (sz := s.heap.size)
  generalize hAe : va_A [(h, .inr (13, [.ref sm, ms_w, ms_size, ms_block, ms_gathered, ms_filled, ms_total, ms_blocks])), (sm, .inl (cI, 8, .inl f)), (tg, .inl (cB, N, .inl g))] s.heap.size = A at hD ⊢
  have hA : ∀ q : Nat, s.heap.size ≤ q → A q := fun q h => by rw [← hAe]; exact Or.inr h
  have hS : va_S A s.heap s.heap [] := va_S.rf
  have hl := lv_entry ([.ref h, .ref tg, .int (nI a)]) (n := 4) (Nat.le_of_ble_eq_true rfl)
  rw [lg_entry_eq]
  generalize (lg_sl ([.ref h, .ref tg, .int (nI a)]) ++ List.replicate (4 - (lg_sl ([.ref h, .ref tg, .int (nI a)])).length) Slot.unset).toArray = ls at hl ⊢
  have hl : lv_has ls 4 [(0, .ref h), (1, .ref tg), (2, .int (nI a))] := hl
  generalize hQe : MQ _ _ _ _ _ _ _ = Q
  refine lv_iconst (v := 0) hx hb d_MS_put_0 (by decide) ?_
  refine lv_istore_n (lv' := [(3, .int 0), (0, .ref h), (1, .ref tg), (2, .int (nI a))]) hx hb d_MS_put_1 rfl hl (by decide) rfl (fun ls hl => ?_)
  have loop_2 : ∀ (n : Nat) (k : Nat) (H : Heap) (locs : List Loc) (ls : Array Slot), 32 - k < n → (k ≤ 32) → va_P (dC, dI) classes [(h, .inr (13, [.ref sm, ms_w, ms_size, ms_block, ms_gathered, ms_filled, ms_total, ms_blocks])), (sm, .inl (cI, 8, .inl f)), (tg, .inl (cB, N, .inl (sh_out f a k g)))] H → va_D A [(h, .inr (13, [.ref sm, ms_w, ms_size, ms_block, ms_gathered, ms_filled, ms_total, ms_blocks])), (sm, .inl (cI, 8, .inl f)), (tg, .inl (cB, N, .inl (sh_out f a k g)))] → va_S A s.heap H locs → lv_has ls 4 [(0, .ref h), (1, .ref tg), (2, .int (nI a)), (3, .int (nI k))] → W p l e (headSpec ws_MS_put ({ frames := 0, cells := 0, slots := 0, locals := 0 })).room s m ([.ref h, .ref tg, .int (nI a)] : List Value).toArray below meth c H locs 0 0 Q (F0 m 2 ls []) := by
    intro n
    induction n with
    | zero => intro k H locs ls hm; exact absurd hm (Nat.not_lt_zero _)
    | succ n ih_2 =>
      intro k H locs ls hm hk hP hD hS hl
      refine lv_iload_n hx hb d_MS_put_2 rfl (lv_at hl 3 rfl) ?_
      refine lv_bipush (v := 32) hx hb d_MS_put_3 (by decide) ?_
      refine lv_icmp_ge (tgt := 38) hx hb d_MS_put_5 (by decide) (fun c_5 => ?_) (fun c_5 => ?_)
      · have hk9 : k = 32 := by have := (nI_leI (a := 32) (b := k) (by omega) (by omega)).mp c_5; omega
        subst hk9
        rw [← hQe]
        exact W.vret hx hb hr (fun t ht hW => ⟨⟨(), rfl, trivial, by rw [ht]; exact hP, va_K.moved hW.alike hK, hD⟩, hS.F ht⟩) hS.2.2 d_MS_put_38
      · have hk9 : k < 32 := by rcases Nat.lt_or_ge k 32 with z | z; exact z; exact absurd (nI_le (a := 32) z (by omega)) c_5
        refine lv_aload_n hx hb d_MS_put_8 rfl (lv_at hl 1 rfl) ?_
        refine lv_iload_n hx hb d_MS_put_9 rfl (lv_at hl 2 rfl) ?_
        refine lv_iload_n hx hb d_MS_put_10 rfl (lv_at hl 3 rfl) ?_
        refine lv_iadd hx hb d_MS_put_11 ?_
        refine lv_topi (fun x_1 ex_1 => ?_)
        obtain rfl : x_1 = nI (a + k) := by rw [ex_1]; first | done | (exact nI_add a k)
        refine lv_aload_n hx hb d_MS_put_12 rfl (lv_at hl 0 rfl) ?_
        refine va_get (D := (dC, dI)) (ci := 13) (v := .ref sm) (C := R_MS) (T := F_MS) (N := 8) hx hb hts i_MS hown hK hP 0 rfl rfl 0 (by decide) (hts _ gw_1390) (fun _ h9 => h9) rfl d_MS_put_13 ?_
        refine lv_iload_n hx hb d_MS_put_16 rfl (lv_at hl 3 rfl) ?_
        refine lv_iconst (v := 4) hx hb d_MS_put_17 (by decide) ?_
        refine lv_idiv hx hb d_MS_put_18 (by decide) ?_
        refine lv_topi (fun x_2 ex_2 => ?_)
        obtain rfl : x_2 = nI (k / 4) := by rw [ex_2]; first | done | (exact pk_div (d := 4) (by omega) (by omega) (by omega))
        refine va_iald hx hb hK hP 1 0 rfl rfl (vp_in_nI (by omega) (by omega)) d_MS_put_19 ?_
        rw [show (nI (k / 4)).toNatClampNeg = (k / 4) from nI_clamp (by omega)]
        refine lv_bipush (v := 24) hx hb d_MS_put_20 (by decide) ?_
        refine lv_bipush (v := 8) hx hb d_MS_put_22 (by decide) ?_
        refine lv_iload_n hx hb d_MS_put_24 rfl (lv_at hl 3 rfl) ?_
        refine lv_iconst (v := 4) hx hb d_MS_put_25 (by decide) ?_
        refine lv_irem hx hb d_MS_put_26 (by decide) ?_
        refine lv_topi (fun x_3 ex_3 => ?_)
        obtain rfl : x_3 = nI (k % 4) := by rw [ex_3]; first | done | (exact pk_rem (d := 4) (by omega) (by omega) (by omega))
        refine lv_imul hx hb d_MS_put_27 ?_
        refine lv_isub hx hb d_MS_put_28 ?_
        refine lv_iushr hx hb d_MS_put_29 rfl ?_
        refine lv_i2b hx hb d_MS_put_30 rfl ?_
        refine lv_topi (fun x_4 ex_4 => ?_)
        obtain rfl : x_4 = sh_outb f k := by rw [ex_4]; first | done | (exact u8_k _ (k % 4) (by omega))
        refine va_bast hx hb hK hP hD hS 2 1 rfl rfl (vp_in_nI (by omega) (by omega)) d_MS_put_31 (fun H locs hP hD hS => ?_)
        rw [show (nI (a + k)).toNatClampNeg = (a + k) from nI_clamp (by omega)] at hP hD
        rw [show vp_nar .byte (sh_outb f k) = (sh_outb f k) from pk_vb _] at hP hD
        have hP : va_P (dC, dI) classes [(h, .inr (13, [.ref sm, ms_w, ms_size, ms_block, ms_gathered, ms_filled, ms_total, ms_blocks])), (sm, .inl (cI, 8, .inl f)), (tg, .inl (cB, N, .inl (upd (sh_out f a k g) (a + k) (sh_outb f k))))] H := hP
        have hD : va_D A [(h, .inr (13, [.ref sm, ms_w, ms_size, ms_block, ms_gathered, ms_filled, ms_total, ms_blocks])), (sm, .inl (cI, 8, .inl f)), (tg, .inl (cB, N, .inl (upd (sh_out f a k g) (a + k) (sh_outb f k))))] := hD
        refine lv_iinc (v := nI (k + 1)) (lv' := [(3, .int (nI (k + 1))), (0, .ref h), (1, .ref tg), (2, .int (nI a))]) hx hb d_MS_put_32 hl (k := 3) rfl (by exact nI_1 k) (by decide) rfl (fun ls hl => ?_)
        refine lv_goto (tgt := 2) hx hb d_MS_put_35 (by decide) ?_
        rw [sh_out_s] at hP hD
        exact ih_2 (k + 1) _ _ _ (by omega) (by omega) hP hD hS (lv_sub hl [1, 2, 3, 0] rfl)
  rw [← sh_out_0 (f := f) (a := a) (g := g)] at hP hD
  exact loop_2 _ 0 _ _ _ (Nat.lt_succ_self _) (Nat.zero_le _) hP hD hS (lv_sub hl [1, 2, 3, 0] rfl)
