/-! 14.sha2.lean.txt -/
theorem gw_2 : (Jvm.Cond.initialized "PatchStore$Sha256") ∈ xg_1 := xg_s1 2 rfl rfl
theorem gw_847 : (Jvm.Cond.methodLink "PatchStore$Sha256" (38 : Nat) ({ cls := "PatchStore$Sha256", name := "spread", desc := "()V" } : Jvm.MethodName)) ∈ xg_1 := xg_s4 127 rfl rfl
theorem gw_849 : (Jvm.Cond.instanceMethod ({ cls := "PatchStore$Sha256", name := "spread", desc := "()V" } : Jvm.MethodName)) ∈ xg_1 := xg_s4 129 rfl rfl
theorem gw_850 : (Jvm.Cond.code ({ cls := "PatchStore$Sha256", name := "spread", desc := "()V" } : Jvm.MethodName) prog_9_method_6_code (6 : Nat) (Option.none : Option Jvm.ClassFile.FieldType)) ∈ xg_1 := xg_s4 130 rfl rfl
theorem gw_851 : (Jvm.Cond.methodLink "PatchStore$Sha256" (41 : Nat) ({ cls := "PatchStore$Sha256", name := "mix", desc := "()V" } : Jvm.MethodName)) ∈ xg_1 := xg_s4 131 rfl rfl
theorem gw_853 : (Jvm.Cond.instanceMethod ({ cls := "PatchStore$Sha256", name := "mix", desc := "()V" } : Jvm.MethodName)) ∈ xg_1 := xg_s4 133 rfl rfl
theorem gw_854 : (Jvm.Cond.code ({ cls := "PatchStore$Sha256", name := "mix", desc := "()V" } : Jvm.MethodName) prog_9_method_7_code (14 : Nat) (Option.none : Option Jvm.ClassFile.FieldType)) ∈ xg_1 := xg_s4 134 rfl rfl
theorem gw_855 : (Jvm.Cond.fieldLink "PatchStore$Sha256" (44 : Nat) "PatchStore$Sha256" "ROUND" "[I") ∈ xg_1 := xg_s4 135 rfl rfl
def y_Sh_mix : MethodName := ⟨"PatchStore$Sha256", "mix", "()V"⟩
abbrev c_Sh_mix : Cond := (Jvm.Cond.code ({ cls := "PatchStore$Sha256", name := "mix", desc := "()V" } : Jvm.MethodName) prog_9_method_7_code (14 : Nat) (Option.none : Option Jvm.ClassFile.FieldType))
abbrev ws_Sh_mix : List Cond := c_Sh_mix :: xg_1
theorem d_Sh_mix_0 : decode prog_9_method_7_code 0 = .ok (.aload_n 0, 1) := by decide +kernel
theorem d_Sh_mix_1 : decode prog_9_method_7_code 1 = .ok (.getfield 9, 3) := by decide +kernel
theorem d_Sh_mix_4 : decode prog_9_method_7_code 4 = .ok (.iconst 0, 1) := by decide +kernel
theorem d_Sh_mix_5 : decode prog_9_method_7_code 5 = .ok (.iaload, 1) := by decide +kernel
theorem d_Sh_mix_6 : decode prog_9_method_7_code 6 = .ok (.istore_n 1, 1) := by decide +kernel
theorem d_Sh_mix_7 : decode prog_9_method_7_code 7 = .ok (.aload_n 0, 1) := by decide +kernel
theorem d_Sh_mix_8 : decode prog_9_method_7_code 8 = .ok (.getfield 9, 3) := by decide +kernel
theorem d_Sh_mix_11 : decode prog_9_method_7_code 11 = .ok (.iconst 1, 1) := by decide +kernel
theorem d_Sh_mix_12 : decode prog_9_method_7_code 12 = .ok (.iaload, 1) := by decide +kernel
theorem d_Sh_mix_13 : decode prog_9_method_7_code 13 = .ok (.istore_n 2, 1) := by decide +kernel
theorem d_Sh_mix_14 : decode prog_9_method_7_code 14 = .ok (.aload_n 0, 1) := by decide +kernel
theorem d_Sh_mix_15 : decode prog_9_method_7_code 15 = .ok (.getfield 9, 3) := by decide +kernel
theorem d_Sh_mix_18 : decode prog_9_method_7_code 18 = .ok (.iconst 2, 1) := by decide +kernel
theorem d_Sh_mix_19 : decode prog_9_method_7_code 19 = .ok (.iaload, 1) := by decide +kernel
theorem d_Sh_mix_20 : decode prog_9_method_7_code 20 = .ok (.istore_n 3, 1) := by decide +kernel
theorem d_Sh_mix_21 : decode prog_9_method_7_code 21 = .ok (.aload_n 0, 1) := by decide +kernel
theorem d_Sh_mix_22 : decode prog_9_method_7_code 22 = .ok (.getfield 9, 3) := by decide +kernel
theorem d_Sh_mix_25 : decode prog_9_method_7_code 25 = .ok (.iconst 3, 1) := by decide +kernel
theorem d_Sh_mix_26 : decode prog_9_method_7_code 26 = .ok (.iaload, 1) := by decide +kernel
theorem d_Sh_mix_27 : decode prog_9_method_7_code 27 = .ok (.istore 4, 2) := by decide +kernel
theorem d_Sh_mix_29 : decode prog_9_method_7_code 29 = .ok (.aload_n 0, 1) := by decide +kernel
theorem d_Sh_mix_30 : decode prog_9_method_7_code 30 = .ok (.getfield 9, 3) := by decide +kernel
theorem d_Sh_mix_33 : decode prog_9_method_7_code 33 = .ok (.iconst 4, 1) := by decide +kernel
theorem d_Sh_mix_34 : decode prog_9_method_7_code 34 = .ok (.iaload, 1) := by decide +kernel
theorem d_Sh_mix_35 : decode prog_9_method_7_code 35 = .ok (.istore 5, 2) := by decide +kernel
theorem d_Sh_mix_37 : decode prog_9_method_7_code 37 = .ok (.aload_n 0, 1) := by decide +kernel
theorem d_Sh_mix_38 : decode prog_9_method_7_code 38 = .ok (.getfield 9, 3) := by decide +kernel
theorem d_Sh_mix_41 : decode prog_9_method_7_code 41 = .ok (.iconst 5, 1) := by decide +kernel
theorem d_Sh_mix_42 : decode prog_9_method_7_code 42 = .ok (.iaload, 1) := by decide +kernel
theorem d_Sh_mix_43 : decode prog_9_method_7_code 43 = .ok (.istore 6, 2) := by decide +kernel
theorem d_Sh_mix_45 : decode prog_9_method_7_code 45 = .ok (.aload_n 0, 1) := by decide +kernel
theorem d_Sh_mix_46 : decode prog_9_method_7_code 46 = .ok (.getfield 9, 3) := by decide +kernel
theorem d_Sh_mix_49 : decode prog_9_method_7_code 49 = .ok (.bipush 6, 2) := by decide +kernel
theorem d_Sh_mix_51 : decode prog_9_method_7_code 51 = .ok (.iaload, 1) := by decide +kernel
theorem d_Sh_mix_52 : decode prog_9_method_7_code 52 = .ok (.istore 7, 2) := by decide +kernel
theorem d_Sh_mix_54 : decode prog_9_method_7_code 54 = .ok (.aload_n 0, 1) := by decide +kernel
theorem d_Sh_mix_55 : decode prog_9_method_7_code 55 = .ok (.getfield 9, 3) := by decide +kernel
theorem d_Sh_mix_58 : decode prog_9_method_7_code 58 = .ok (.bipush 7, 2) := by decide +kernel
theorem d_Sh_mix_60 : decode prog_9_method_7_code 60 = .ok (.iaload, 1) := by decide +kernel
theorem d_Sh_mix_61 : decode prog_9_method_7_code 61 = .ok (.istore 8, 2) := by decide +kernel
theorem d_Sh_mix_63 : decode prog_9_method_7_code 63 = .ok (.iconst 0, 1) := by decide +kernel
theorem d_Sh_mix_64 : decode prog_9_method_7_code 64 = .ok (.istore 9, 2) := by decide +kernel
theorem d_Sh_mix_66 : decode prog_9_method_7_code 66 = .ok (.iload 9, 2) := by decide +kernel
theorem d_Sh_mix_68 : decode prog_9_method_7_code 68 = .ok (.bipush 64, 2) := by decide +kernel
theorem d_Sh_mix_70 : decode prog_9_method_7_code 70 = .ok (.if_icmp .ge 160, 3) := by decide +kernel
theorem d_Sh_mix_73 : decode prog_9_method_7_code 73 = .ok (.iload 5, 2) := by decide +kernel
theorem d_Sh_mix_75 : decode prog_9_method_7_code 75 = .ok (.bipush 6, 2) := by decide +kernel
theorem d_Sh_mix_77 : decode prog_9_method_7_code 77 = .ok (.iushr, 1) := by decide +kernel
theorem d_Sh_mix_78 : decode prog_9_method_7_code 78 = .ok (.iload 5, 2) := by decide +kernel
theorem d_Sh_mix_80 : decode prog_9_method_7_code 80 = .ok (.bipush 26, 2) := by decide +kernel
theorem d_Sh_mix_82 : decode prog_9_method_7_code 82 = .ok (.ishl, 1) := by decide +kernel
theorem d_Sh_mix_83 : decode prog_9_method_7_code 83 = .ok (.ior, 1) := by decide +kernel
theorem d_Sh_mix_84 : decode prog_9_method_7_code 84 = .ok (.iload 5, 2) := by decide +kernel
theorem d_Sh_mix_86 : decode prog_9_method_7_code 86 = .ok (.bipush 11, 2) := by decide +kernel
theorem d_Sh_mix_88 : decode prog_9_method_7_code 88 = .ok (.iushr, 1) := by decide +kernel
theorem d_Sh_mix_89 : decode prog_9_method_7_code 89 = .ok (.iload 5, 2) := by decide +kernel
theorem d_Sh_mix_91 : decode prog_9_method_7_code 91 = .ok (.bipush 21, 2) := by decide +kernel
theorem d_Sh_mix_93 : decode prog_9_method_7_code 93 = .ok (.ishl, 1) := by decide +kernel
theorem d_Sh_mix_94 : decode prog_9_method_7_code 94 = .ok (.ior, 1) := by decide +kernel
theorem d_Sh_mix_95 : decode prog_9_method_7_code 95 = .ok (.ixor, 1) := by decide +kernel
theorem d_Sh_mix_96 : decode prog_9_method_7_code 96 = .ok (.iload 5, 2) := by decide +kernel
theorem d_Sh_mix_98 : decode prog_9_method_7_code 98 = .ok (.bipush 25, 2) := by decide +kernel
theorem d_Sh_mix_100 : decode prog_9_method_7_code 100 = .ok (.iushr, 1) := by decide +kernel
theorem d_Sh_mix_101 : decode prog_9_method_7_code 101 = .ok (.iload 5, 2) := by decide +kernel
theorem d_Sh_mix_103 : decode prog_9_method_7_code 103 = .ok (.bipush 7, 2) := by decide +kernel
theorem d_Sh_mix_105 : decode prog_9_method_7_code 105 = .ok (.ishl, 1) := by decide +kernel
theorem d_Sh_mix_106 : decode prog_9_method_7_code 106 = .ok (.ior, 1) := by decide +kernel
theorem d_Sh_mix_107 : decode prog_9_method_7_code 107 = .ok (.ixor, 1) := by decide +kernel
theorem d_Sh_mix_108 : decode prog_9_method_7_code 108 = .ok (.istore 10, 2) := by decide +kernel
theorem d_Sh_mix_110 : decode prog_9_method_7_code 110 = .ok (.iload 8, 2) := by decide +kernel
theorem d_Sh_mix_112 : decode prog_9_method_7_code 112 = .ok (.iload 10, 2) := by decide +kernel
theorem d_Sh_mix_114 : decode prog_9_method_7_code 114 = .ok (.iadd, 1) := by decide +kernel
theorem d_Sh_mix_115 : decode prog_9_method_7_code 115 = .ok (.iload 5, 2) := by decide +kernel
theorem d_Sh_mix_117 : decode prog_9_method_7_code 117 = .ok (.iload 6, 2) := by decide +kernel
theorem d_Sh_mix_119 : decode prog_9_method_7_code 119 = .ok (.iand, 1) := by decide +kernel
theorem d_Sh_mix_120 : decode prog_9_method_7_code 120 = .ok (.iload 5, 2) := by decide +kernel
theorem d_Sh_mix_122 : decode prog_9_method_7_code 122 = .ok (.iconst (-1), 1) := by decide +kernel
theorem d_Sh_mix_123 : decode prog_9_method_7_code 123 = .ok (.ixor, 1) := by decide +kernel
theorem d_Sh_mix_124 : decode prog_9_method_7_code 124 = .ok (.iload 7, 2) := by decide +kernel
theorem d_Sh_mix_126 : decode prog_9_method_7_code 126 = .ok (.iand, 1) := by decide +kernel
theorem d_Sh_mix_127 : decode prog_9_method_7_code 127 = .ok (.ixor, 1) := by decide +kernel
theorem d_Sh_mix_128 : decode prog_9_method_7_code 128 = .ok (.iadd, 1) := by decide +kernel
theorem d_Sh_mix_129 : decode prog_9_method_7_code 129 = .ok (.getstatic 44, 3) := by decide +kernel
theorem d_Sh_mix_132 : decode prog_9_method_7_code 132 = .ok (.iload 9, 2) := by decide +kernel
theorem d_Sh_mix_134 : decode prog_9_method_7_code 134 = .ok (.iaload, 1) := by decide +kernel
theorem d_Sh_mix_135 : decode prog_9_method_7_code 135 = .ok (.iadd, 1) := by decide +kernel
theorem d_Sh_mix_136 : decode prog_9_method_7_code 136 = .ok (.aload_n 0, 1) := by decide +kernel
theorem d_Sh_mix_137 : decode prog_9_method_7_code 137 = .ok (.getfield 15, 3) := by decide +kernel
theorem d_Sh_mix_140 : decode prog_9_method_7_code 140 = .ok (.iload 9, 2) := by decide +kernel
theorem d_Sh_mix_142 : decode prog_9_method_7_code 142 = .ok (.iaload, 1) := by decide +kernel
theorem d_Sh_mix_143 : decode prog_9_method_7_code 143 = .ok (.iadd, 1) := by decide +kernel
theorem d_Sh_mix_144 : decode prog_9_method_7_code 144 = .ok (.istore 11, 2) := by decide +kernel
theorem d_Sh_mix_146 : decode prog_9_method_7_code 146 = .ok (.iload_n 1, 1) := by decide +kernel
theorem d_Sh_mix_147 : decode prog_9_method_7_code 147 = .ok (.iconst 2, 1) := by decide +kernel
theorem d_Sh_mix_148 : decode prog_9_method_7_code 148 = .ok (.iushr, 1) := by decide +kernel
theorem d_Sh_mix_149 : decode prog_9_method_7_code 149 = .ok (.iload_n 1, 1) := by decide +kernel
theorem d_Sh_mix_150 : decode prog_9_method_7_code 150 = .ok (.bipush 30, 2) := by decide +kernel
theorem d_Sh_mix_152 : decode prog_9_method_7_code 152 = .ok (.ishl, 1) := by decide +kernel
theorem d_Sh_mix_153 : decode prog_9_method_7_code 153 = .ok (.ior, 1) := by decide +kernel
theorem d_Sh_mix_154 : decode prog_9_method_7_code 154 = .ok (.iload_n 1, 1) := by decide +kernel
theorem d_Sh_mix_155 : decode prog_9_method_7_code 155 = .ok (.bipush 13, 2) := by decide +kernel
theorem d_Sh_mix_157 : decode prog_9_method_7_code 157 = .ok (.iushr, 1) := by decide +kernel
theorem d_Sh_mix_158 : decode prog_9_method_7_code 158 = .ok (.iload_n 1, 1) := by decide +kernel
theorem d_Sh_mix_159 : decode prog_9_method_7_code 159 = .ok (.bipush 19, 2) := by decide +kernel
theorem d_Sh_mix_161 : decode prog_9_method_7_code 161 = .ok (.ishl, 1) := by decide +kernel
theorem d_Sh_mix_162 : decode prog_9_method_7_code 162 = .ok (.ior, 1) := by decide +kernel
theorem d_Sh_mix_163 : decode prog_9_method_7_code 163 = .ok (.ixor, 1) := by decide +kernel
theorem d_Sh_mix_164 : decode prog_9_method_7_code 164 = .ok (.iload_n 1, 1) := by decide +kernel
theorem d_Sh_mix_165 : decode prog_9_method_7_code 165 = .ok (.bipush 22, 2) := by decide +kernel
theorem d_Sh_mix_167 : decode prog_9_method_7_code 167 = .ok (.iushr, 1) := by decide +kernel
theorem d_Sh_mix_168 : decode prog_9_method_7_code 168 = .ok (.iload_n 1, 1) := by decide +kernel
theorem d_Sh_mix_169 : decode prog_9_method_7_code 169 = .ok (.bipush 10, 2) := by decide +kernel
theorem d_Sh_mix_171 : decode prog_9_method_7_code 171 = .ok (.ishl, 1) := by decide +kernel
theorem d_Sh_mix_172 : decode prog_9_method_7_code 172 = .ok (.ior, 1) := by decide +kernel
theorem d_Sh_mix_173 : decode prog_9_method_7_code 173 = .ok (.ixor, 1) := by decide +kernel
theorem d_Sh_mix_174 : decode prog_9_method_7_code 174 = .ok (.istore 12, 2) := by decide +kernel
theorem d_Sh_mix_176 : decode prog_9_method_7_code 176 = .ok (.iload 12, 2) := by decide +kernel
theorem d_Sh_mix_178 : decode prog_9_method_7_code 178 = .ok (.iload_n 1, 1) := by decide +kernel
theorem d_Sh_mix_179 : decode prog_9_method_7_code 179 = .ok (.iload_n 2, 1) := by decide +kernel
theorem d_Sh_mix_180 : decode prog_9_method_7_code 180 = .ok (.iand, 1) := by decide +kernel
theorem d_Sh_mix_181 : decode prog_9_method_7_code 181 = .ok (.iload_n 1, 1) := by decide +kernel
theorem d_Sh_mix_182 : decode prog_9_method_7_code 182 = .ok (.iload_n 3, 1) := by decide +kernel
theorem d_Sh_mix_183 : decode prog_9_method_7_code 183 = .ok (.iand, 1) := by decide +kernel
theorem d_Sh_mix_184 : decode prog_9_method_7_code 184 = .ok (.ixor, 1) := by decide +kernel
theorem d_Sh_mix_185 : decode prog_9_method_7_code 185 = .ok (.iload_n 2, 1) := by decide +kernel
theorem d_Sh_mix_186 : decode prog_9_method_7_code 186 = .ok (.iload_n 3, 1) := by decide +kernel
theorem d_Sh_mix_187 : decode prog_9_method_7_code 187 = .ok (.iand, 1) := by decide +kernel
theorem d_Sh_mix_188 : decode prog_9_method_7_code 188 = .ok (.ixor, 1) := by decide +kernel
theorem d_Sh_mix_189 : decode prog_9_method_7_code 189 = .ok (.iadd, 1) := by decide +kernel
theorem d_Sh_mix_190 : decode prog_9_method_7_code 190 = .ok (.istore 13, 2) := by decide +kernel
theorem d_Sh_mix_192 : decode prog_9_method_7_code 192 = .ok (.iload 7, 2) := by decide +kernel
theorem d_Sh_mix_194 : decode prog_9_method_7_code 194 = .ok (.istore 8, 2) := by decide +kernel
theorem d_Sh_mix_196 : decode prog_9_method_7_code 196 = .ok (.iload 6, 2) := by decide +kernel
theorem d_Sh_mix_198 : decode prog_9_method_7_code 198 = .ok (.istore 7, 2) := by decide +kernel
theorem d_Sh_mix_200 : decode prog_9_method_7_code 200 = .ok (.iload 5, 2) := by decide +kernel
theorem d_Sh_mix_202 : decode prog_9_method_7_code 202 = .ok (.istore 6, 2) := by decide +kernel
theorem d_Sh_mix_204 : decode prog_9_method_7_code 204 = .ok (.iload 4, 2) := by decide +kernel
theorem d_Sh_mix_206 : decode prog_9_method_7_code 206 = .ok (.iload 11, 2) := by decide +kernel
theorem d_Sh_mix_208 : decode prog_9_method_7_code 208 = .ok (.iadd, 1) := by decide +kernel
theorem d_Sh_mix_209 : decode prog_9_method_7_code 209 = .ok (.istore 5, 2) := by decide +kernel
theorem d_Sh_mix_211 : decode prog_9_method_7_code 211 = .ok (.iload_n 3, 1) := by decide +kernel
theorem d_Sh_mix_212 : decode prog_9_method_7_code 212 = .ok (.istore 4, 2) := by decide +kernel
theorem d_Sh_mix_214 : decode prog_9_method_7_code 214 = .ok (.iload_n 2, 1) := by decide +kernel
theorem d_Sh_mix_215 : decode prog_9_method_7_code 215 = .ok (.istore_n 3, 1) := by decide +kernel
theorem d_Sh_mix_216 : decode prog_9_method_7_code 216 = .ok (.iload_n 1, 1) := by decide +kernel
theorem d_Sh_mix_217 : decode prog_9_method_7_code 217 = .ok (.istore_n 2, 1) := by decide +kernel
theorem d_Sh_mix_218 : decode prog_9_method_7_code 218 = .ok (.iload 11, 2) := by decide +kernel
theorem d_Sh_mix_220 : decode prog_9_method_7_code 220 = .ok (.iload 13, 2) := by decide +kernel
theorem d_Sh_mix_222 : decode prog_9_method_7_code 222 = .ok (.iadd, 1) := by decide +kernel
theorem d_Sh_mix_223 : decode prog_9_method_7_code 223 = .ok (.istore_n 1, 1) := by decide +kernel
theorem d_Sh_mix_224 : decode prog_9_method_7_code 224 = .ok (.iinc 9 1, 3) := by decide +kernel
theorem d_Sh_mix_227 : decode prog_9_method_7_code 227 = .ok (.goto (-161), 3) := by decide +kernel
theorem d_Sh_mix_230 : decode prog_9_method_7_code 230 = .ok (.aload_n 0, 1) := by decide +kernel
theorem d_Sh_mix_231 : decode prog_9_method_7_code 231 = .ok (.getfield 9, 3) := by decide +kernel
theorem d_Sh_mix_234 : decode prog_9_method_7_code 234 = .ok (.iconst 0, 1) := by decide +kernel
theorem d_Sh_mix_235 : decode prog_9_method_7_code 235 = .ok (.dup2, 1) := by decide +kernel
theorem d_Sh_mix_236 : decode prog_9_method_7_code 236 = .ok (.iaload, 1) := by decide +kernel
theorem d_Sh_mix_237 : decode prog_9_method_7_code 237 = .ok (.iload_n 1, 1) := by decide +kernel
theorem d_Sh_mix_238 : decode prog_9_method_7_code 238 = .ok (.iadd, 1) := by decide +kernel
theorem d_Sh_mix_239 : decode prog_9_method_7_code 239 = .ok (.iastore, 1) := by decide +kernel
theorem d_Sh_mix_240 : decode prog_9_method_7_code 240 = .ok (.aload_n 0, 1) := by decide +kernel
theorem d_Sh_mix_241 : decode prog_9_method_7_code 241 = .ok (.getfield 9, 3) := by decide +kernel
theorem d_Sh_mix_244 : decode prog_9_method_7_code 244 = .ok (.iconst 1, 1) := by decide +kernel
theorem d_Sh_mix_245 : decode prog_9_method_7_code 245 = .ok (.dup2, 1) := by decide +kernel
theorem d_Sh_mix_246 : decode prog_9_method_7_code 246 = .ok (.iaload, 1) := by decide +kernel
theorem d_Sh_mix_247 : decode prog_9_method_7_code 247 = .ok (.iload_n 2, 1) := by decide +kernel
theorem d_Sh_mix_248 : decode prog_9_method_7_code 248 = .ok (.iadd, 1) := by decide +kernel
theorem d_Sh_mix_249 : decode prog_9_method_7_code 249 = .ok (.iastore, 1) := by decide +kernel
theorem d_Sh_mix_250 : decode prog_9_method_7_code 250 = .ok (.aload_n 0, 1) := by decide +kernel
theorem d_Sh_mix_251 : decode prog_9_method_7_code 251 = .ok (.getfield 9, 3) := by decide +kernel
theorem d_Sh_mix_254 : decode prog_9_method_7_code 254 = .ok (.iconst 2, 1) := by decide +kernel
theorem d_Sh_mix_255 : decode prog_9_method_7_code 255 = .ok (.dup2, 1) := by decide +kernel
theorem d_Sh_mix_256 : decode prog_9_method_7_code 256 = .ok (.iaload, 1) := by decide +kernel
theorem d_Sh_mix_257 : decode prog_9_method_7_code 257 = .ok (.iload_n 3, 1) := by decide +kernel
theorem d_Sh_mix_258 : decode prog_9_method_7_code 258 = .ok (.iadd, 1) := by decide +kernel
theorem d_Sh_mix_259 : decode prog_9_method_7_code 259 = .ok (.iastore, 1) := by decide +kernel
theorem d_Sh_mix_260 : decode prog_9_method_7_code 260 = .ok (.aload_n 0, 1) := by decide +kernel
theorem d_Sh_mix_261 : decode prog_9_method_7_code 261 = .ok (.getfield 9, 3) := by decide +kernel
theorem d_Sh_mix_264 : decode prog_9_method_7_code 264 = .ok (.iconst 3, 1) := by decide +kernel
theorem d_Sh_mix_265 : decode prog_9_method_7_code 265 = .ok (.dup2, 1) := by decide +kernel
theorem d_Sh_mix_266 : decode prog_9_method_7_code 266 = .ok (.iaload, 1) := by decide +kernel
theorem d_Sh_mix_267 : decode prog_9_method_7_code 267 = .ok (.iload 4, 2) := by decide +kernel
theorem d_Sh_mix_269 : decode prog_9_method_7_code 269 = .ok (.iadd, 1) := by decide +kernel
theorem d_Sh_mix_270 : decode prog_9_method_7_code 270 = .ok (.iastore, 1) := by decide +kernel
theorem d_Sh_mix_271 : decode prog_9_method_7_code 271 = .ok (.aload_n 0, 1) := by decide +kernel
theorem d_Sh_mix_272 : decode prog_9_method_7_code 272 = .ok (.getfield 9, 3) := by decide +kernel
theorem d_Sh_mix_275 : decode prog_9_method_7_code 275 = .ok (.iconst 4, 1) := by decide +kernel
theorem d_Sh_mix_276 : decode prog_9_method_7_code 276 = .ok (.dup2, 1) := by decide +kernel
theorem d_Sh_mix_277 : decode prog_9_method_7_code 277 = .ok (.iaload, 1) := by decide +kernel
theorem d_Sh_mix_278 : decode prog_9_method_7_code 278 = .ok (.iload 5, 2) := by decide +kernel
theorem d_Sh_mix_280 : decode prog_9_method_7_code 280 = .ok (.iadd, 1) := by decide +kernel
theorem d_Sh_mix_281 : decode prog_9_method_7_code 281 = .ok (.iastore, 1) := by decide +kernel
theorem d_Sh_mix_282 : decode prog_9_method_7_code 282 = .ok (.aload_n 0, 1) := by decide +kernel
theorem d_Sh_mix_283 : decode prog_9_method_7_code 283 = .ok (.getfield 9, 3) := by decide +kernel
theorem d_Sh_mix_286 : decode prog_9_method_7_code 286 = .ok (.iconst 5, 1) := by decide +kernel
theorem d_Sh_mix_287 : decode prog_9_method_7_code 287 = .ok (.dup2, 1) := by decide +kernel
theorem d_Sh_mix_288 : decode prog_9_method_7_code 288 = .ok (.iaload, 1) := by decide +kernel
theorem d_Sh_mix_289 : decode prog_9_method_7_code 289 = .ok (.iload 6, 2) := by decide +kernel
theorem d_Sh_mix_291 : decode prog_9_method_7_code 291 = .ok (.iadd, 1) := by decide +kernel
theorem d_Sh_mix_292 : decode prog_9_method_7_code 292 = .ok (.iastore, 1) := by decide +kernel
theorem d_Sh_mix_293 : decode prog_9_method_7_code 293 = .ok (.aload_n 0, 1) := by decide +kernel
theorem d_Sh_mix_294 : decode prog_9_method_7_code 294 = .ok (.getfield 9, 3) := by decide +kernel
theorem d_Sh_mix_297 : decode prog_9_method_7_code 297 = .ok (.bipush 6, 2) := by decide +kernel
theorem d_Sh_mix_299 : decode prog_9_method_7_code 299 = .ok (.dup2, 1) := by decide +kernel
theorem d_Sh_mix_300 : decode prog_9_method_7_code 300 = .ok (.iaload, 1) := by decide +kernel
theorem d_Sh_mix_301 : decode prog_9_method_7_code 301 = .ok (.iload 7, 2) := by decide +kernel
theorem d_Sh_mix_303 : decode prog_9_method_7_code 303 = .ok (.iadd, 1) := by decide +kernel
theorem d_Sh_mix_304 : decode prog_9_method_7_code 304 = .ok (.iastore, 1) := by decide +kernel
theorem d_Sh_mix_305 : decode prog_9_method_7_code 305 = .ok (.aload_n 0, 1) := by decide +kernel
theorem d_Sh_mix_306 : decode prog_9_method_7_code 306 = .ok (.getfield 9, 3) := by decide +kernel
theorem d_Sh_mix_309 : decode prog_9_method_7_code 309 = .ok (.bipush 7, 2) := by decide +kernel
theorem d_Sh_mix_311 : decode prog_9_method_7_code 311 = .ok (.dup2, 1) := by decide +kernel
theorem d_Sh_mix_312 : decode prog_9_method_7_code 312 = .ok (.iaload, 1) := by decide +kernel
theorem d_Sh_mix_313 : decode prog_9_method_7_code 313 = .ok (.iload 8, 2) := by decide +kernel
theorem d_Sh_mix_315 : decode prog_9_method_7_code 315 = .ok (.iadd, 1) := by decide +kernel
theorem d_Sh_mix_316 : decode prog_9_method_7_code 316 = .ok (.iastore, 1) := by decide +kernel
theorem d_Sh_mix_317 : decode prog_9_method_7_code 317 = .ok (.return_, 1) := by decide +kernel
def y_Sh_put : MethodName := ⟨"PatchStore$Sha256", "put", "(B)V"⟩
abbrev c_Sh_put : Cond := (Jvm.Cond.code ({ cls := "PatchStore$Sha256", name := "put", desc := "(B)V" } : Jvm.MethodName) prog_9_method_5_code (2 : Nat) (Option.none : Option Jvm.ClassFile.FieldType))
abbrev ws_Sh_put : List Cond := c_Sh_put :: xg_1
theorem d_Sh_put_0 : decode prog_9_method_5_code 0 = .ok (.aload_n 0, 1) := by decide +kernel
theorem d_Sh_put_1 : decode prog_9_method_5_code 1 = .ok (.getfield 18, 3) := by decide +kernel
theorem d_Sh_put_4 : decode prog_9_method_5_code 4 = .ok (.aload_n 0, 1) := by decide +kernel
theorem d_Sh_put_5 : decode prog_9_method_5_code 5 = .ok (.getfield 25, 3) := by decide +kernel
theorem d_Sh_put_8 : decode prog_9_method_5_code 8 = .ok (.iload_n 1, 1) := by decide +kernel
theorem d_Sh_put_9 : decode prog_9_method_5_code 9 = .ok (.bastore, 1) := by decide +kernel
theorem d_Sh_put_10 : decode prog_9_method_5_code 10 = .ok (.aload_n 0, 1) := by decide +kernel
theorem d_Sh_put_11 : decode prog_9_method_5_code 11 = .ok (.dup, 1) := by decide +kernel
theorem d_Sh_put_12 : decode prog_9_method_5_code 12 = .ok (.getfield 25, 3) := by decide +kernel
theorem d_Sh_put_15 : decode prog_9_method_5_code 15 = .ok (.iconst 1, 1) := by decide +kernel
theorem d_Sh_put_16 : decode prog_9_method_5_code 16 = .ok (.iadd, 1) := by decide +kernel
theorem d_Sh_put_17 : decode prog_9_method_5_code 17 = .ok (.putfield 25, 3) := by decide +kernel
theorem d_Sh_put_20 : decode prog_9_method_5_code 20 = .ok (.aload_n 0, 1) := by decide +kernel
theorem d_Sh_put_21 : decode prog_9_method_5_code 21 = .ok (.getfield 25, 3) := by decide +kernel
theorem d_Sh_put_24 : decode prog_9_method_5_code 24 = .ok (.bipush 64, 2) := by decide +kernel
theorem d_Sh_put_26 : decode prog_9_method_5_code 26 = .ok (.if_icmp .ne 16, 3) := by decide +kernel
theorem d_Sh_put_29 : decode prog_9_method_5_code 29 = .ok (.aload_n 0, 1) := by decide +kernel
theorem d_Sh_put_30 : decode prog_9_method_5_code 30 = .ok (.invokevirtual 38, 3) := by decide +kernel
theorem d_Sh_put_33 : decode prog_9_method_5_code 33 = .ok (.aload_n 0, 1) := by decide +kernel
theorem d_Sh_put_34 : decode prog_9_method_5_code 34 = .ok (.invokevirtual 41, 3) := by decide +kernel
theorem d_Sh_put_37 : decode prog_9_method_5_code 37 = .ok (.aload_n 0, 1) := by decide +kernel
theorem d_Sh_put_38 : decode prog_9_method_5_code 38 = .ok (.iconst 0, 1) := by decide +kernel
theorem d_Sh_put_39 : decode prog_9_method_5_code 39 = .ok (.putfield 25, 3) := by decide +kernel
theorem d_Sh_put_42 : decode prog_9_method_5_code 42 = .ok (.return_, 1) := by decide +kernel
abbrev sh_T : Type := Int32 × Int32 × Int32 × Int32 × Int32 × Int32 × Int32 × Int32
def sh_right (e : Int32) : Int32 := ((sh_ur e 6 ||| sh_sl e 26) ^^^ (sh_ur e 11 ||| sh_sl e 21)) ^^^ (sh_ur e 25 ||| sh_sl e 7)
def sh_left (a : Int32) : Int32 := ((sh_ur a 2 ||| sh_sl a 30) ^^^ (sh_ur a 13 ||| sh_sl a 19)) ^^^ (sh_ur a 22 ||| sh_sl a 10)
def sh_one (e f g h k w : Int32) : Int32 := (((h + sh_right e) + ((e &&& f) ^^^ ((e ^^^ (-1)) &&& g))) + k) + w
def sh_two (a b c : Int32) : Int32 := sh_left a + (((a &&& b) ^^^ (a &&& c)) ^^^ (b &&& c))
def sh_round (k w : Int32) : sh_T → sh_T
  | (a, b, c, d, e, f, g, h) => (sh_one e f g h k w + sh_two a b c, a, b, c, d + sh_one e f g h k w, e, f, g)
def sh_rounds (w : Nat → Int32) : Nat → sh_T → sh_T
  | 0, x => x
  | n + 1, x => sh_round (sh_ROUND n) (w n) (sh_rounds w n x)
theorem sh_rounds_congr {w w' : Nat → Int32} {x : sh_T} : ∀ n, (∀ j, j < n → w j = w' j) → sh_rounds w n x = sh_rounds w' n x
  | 0, _ => rfl
  | n + 1, h => by
    show sh_round _ _ (sh_rounds w n x) = sh_round _ _ (sh_rounds w' n x)
    rw [h n (by omega), sh_rounds_congr n (fun j hj => h j (by omega))]
def sh_acc (f : Nat → Int32) : sh_T → Nat → Int32
  | (q1, q2, q3, q4, q5, q6, q7, q8) => upd (upd (upd (upd (upd (upd (upd (upd (f) 0 ((f) 0 + q1)) 1 ((upd (f) 0 ((f) 0 + q1)) 1 + q2)) 2 ((upd (upd (f) 0 ((f) 0 + q1)) 1 ((upd (f) 0 ((f) 0 + q1)) 1 + q2)) 2 + q3)) 3 ((upd (upd (upd (f) 0 ((f) 0 + q1)) 1 ((upd (f) 0 ((f) 0 + q1)) 1 + q2)) 2 ((upd (upd (f) 0 ((f) 0 + q1)) 1 ((upd (f) 0 ((f) 0 + q1)) 1 + q2)) 2 + q3)) 3 + q4)) 4 ((upd (upd (upd (upd (f) 0 ((f) 0 + q1)) 1 ((upd (f) 0 ((f) 0 + q1)) 1 + q2)) 2 ((upd (upd (f) 0 ((f) 0 + q1)) 1 ((upd (f) 0 ((f) 0 + q1)) 1 + q2)) 2 + q3)) 3 ((upd (upd (upd (f) 0 ((f) 0 + q1)) 1 ((upd (f) 0 ((f) 0 + q1)) 1 + q2)) 2 ((upd (upd (f) 0 ((f) 0 + q1)) 1 ((upd (f) 0 ((f) 0 + q1)) 1 + q2)) 2 + q3)) 3 + q4)) 4 + q5)) 5 ((upd (upd (upd (upd (upd (f) 0 ((f) 0 + q1)) 1 ((upd (f) 0 ((f) 0 + q1)) 1 + q2)) 2 ((upd (upd (f) 0 ((f) 0 + q1)) 1 ((upd (f) 0 ((f) 0 + q1)) 1 + q2)) 2 + q3)) 3 ((upd (upd (upd (f) 0 ((f) 0 + q1)) 1 ((upd (f) 0 ((f) 0 + q1)) 1 + q2)) 2 ((upd (upd (f) 0 ((f) 0 + q1)) 1 ((upd (f) 0 ((f) 0 + q1)) 1 + q2)) 2 + q3)) 3 + q4)) 4 ((upd (upd (upd (upd (f) 0 ((f) 0 + q1)) 1 ((upd (f) 0 ((f) 0 + q1)) 1 + q2)) 2 ((upd (upd (f) 0 ((f) 0 + q1)) 1 ((upd (f) 0 ((f) 0 + q1)) 1 + q2)) 2 + q3)) 3 ((upd (upd (upd (f) 0 ((f) 0 + q1)) 1 ((upd (f) 0 ((f) 0 + q1)) 1 + q2)) 2 ((upd (upd (f) 0 ((f) 0 + q1)) 1 ((upd (f) 0 ((f) 0 + q1)) 1 + q2)) 2 + q3)) 3 + q4)) 4 + q5)) 5 + q6)) 6 ((upd (upd (upd (upd (upd (upd (f) 0 ((f) 0 + q1)) 1 ((upd (f) 0 ((f) 0 + q1)) 1 + q2)) 2 ((upd (upd (f) 0 ((f) 0 + q1)) 1 ((upd (f) 0 ((f) 0 + q1)) 1 + q2)) 2 + q3)) 3 ((upd (upd (upd (f) 0 ((f) 0 + q1)) 1 ((upd (f) 0 ((f) 0 + q1)) 1 + q2)) 2 ((upd (upd (f) 0 ((f) 0 + q1)) 1 ((upd (f) 0 ((f) 0 + q1)) 1 + q2)) 2 + q3)) 3 + q4)) 4 ((upd (upd (upd (upd (f) 0 ((f) 0 + q1)) 1 ((upd (f) 0 ((f) 0 + q1)) 1 + q2)) 2 ((upd (upd (f) 0 ((f) 0 + q1)) 1 ((upd (f) 0 ((f) 0 + q1)) 1 + q2)) 2 + q3)) 3 ((upd (upd (upd (f) 0 ((f) 0 + q1)) 1 ((upd (f) 0 ((f) 0 + q1)) 1 + q2)) 2 ((upd (upd (f) 0 ((f) 0 + q1)) 1 ((upd (f) 0 ((f) 0 + q1)) 1 + q2)) 2 + q3)) 3 + q4)) 4 + q5)) 5 ((upd (upd (upd (upd (upd (f) 0 ((f) 0 + q1)) 1 ((upd (f) 0 ((f) 0 + q1)) 1 + q2)) 2 ((upd (upd (f) 0 ((f) 0 + q1)) 1 ((upd (f) 0 ((f) 0 + q1)) 1 + q2)) 2 + q3)) 3 ((upd (upd (upd (f) 0 ((f) 0 + q1)) 1 ((upd (f) 0 ((f) 0 + q1)) 1 + q2)) 2 ((upd (upd (f) 0 ((f) 0 + q1)) 1 ((upd (f) 0 ((f) 0 + q1)) 1 + q2)) 2 + q3)) 3 + q4)) 4 ((upd (upd (upd (upd (f) 0 ((f) 0 + q1)) 1 ((upd (f) 0 ((f) 0 + q1)) 1 + q2)) 2 ((upd (upd (f) 0 ((f) 0 + q1)) 1 ((upd (f) 0 ((f) 0 + q1)) 1 + q2)) 2 + q3)) 3 ((upd (upd (upd (f) 0 ((f) 0 + q1)) 1 ((upd (f) 0 ((f) 0 + q1)) 1 + q2)) 2 ((upd (upd (f) 0 ((f) 0 + q1)) 1 ((upd (f) 0 ((f) 0 + q1)) 1 + q2)) 2 + q3)) 3 + q4)) 4 + q5)) 5 + q6)) 6 + q7)) 7 ((upd (upd (upd (upd (upd (upd (upd (f) 0 ((f) 0 + q1)) 1 ((upd (f) 0 ((f) 0 + q1)) 1 + q2)) 2 ((upd (upd (f) 0 ((f) 0 + q1)) 1 ((upd (f) 0 ((f) 0 + q1)) 1 + q2)) 2 + q3)) 3 ((upd (upd (upd (f) 0 ((f) 0 + q1)) 1 ((upd (f) 0 ((f) 0 + q1)) 1 + q2)) 2 ((upd (upd (f) 0 ((f) 0 + q1)) 1 ((upd (f) 0 ((f) 0 + q1)) 1 + q2)) 2 + q3)) 3 + q4)) 4 ((upd (upd (upd (upd (f) 0 ((f) 0 + q1)) 1 ((upd (f) 0 ((f) 0 + q1)) 1 + q2)) 2 ((upd (upd (f) 0 ((f) 0 + q1)) 1 ((upd (f) 0 ((f) 0 + q1)) 1 + q2)) 2 + q3)) 3 ((upd (upd (upd (f) 0 ((f) 0 + q1)) 1 ((upd (f) 0 ((f) 0 + q1)) 1 + q2)) 2 ((upd (upd (f) 0 ((f) 0 + q1)) 1 ((upd (f) 0 ((f) 0 + q1)) 1 + q2)) 2 + q3)) 3 + q4)) 4 + q5)) 5 ((upd (upd (upd (upd (upd (f) 0 ((f) 0 + q1)) 1 ((upd (f) 0 ((f) 0 + q1)) 1 + q2)) 2 ((upd (upd (f) 0 ((f) 0 + q1)) 1 ((upd (f) 0 ((f) 0 + q1)) 1 + q2)) 2 + q3)) 3 ((upd (upd (upd (f) 0 ((f) 0 + q1)) 1 ((upd (f) 0 ((f) 0 + q1)) 1 + q2)) 2 ((upd (upd (f) 0 ((f) 0 + q1)) 1 ((upd (f) 0 ((f) 0 + q1)) 1 + q2)) 2 + q3)) 3 + q4)) 4 ((upd (upd (upd (upd (f) 0 ((f) 0 + q1)) 1 ((upd (f) 0 ((f) 0 + q1)) 1 + q2)) 2 ((upd (upd (f) 0 ((f) 0 + q1)) 1 ((upd (f) 0 ((f) 0 + q1)) 1 + q2)) 2 + q3)) 3 ((upd (upd (upd (f) 0 ((f) 0 + q1)) 1 ((upd (f) 0 ((f) 0 + q1)) 1 + q2)) 2 ((upd (upd (f) 0 ((f) 0 + q1)) 1 ((upd (f) 0 ((f) 0 + q1)) 1 + q2)) 2 + q3)) 3 + q4)) 4 + q5)) 5 + q6)) 6 ((upd (upd (upd (upd (upd (upd (f) 0 ((f) 0 + q1)) 1 ((upd (f) 0 ((f) 0 + q1)) 1 + q2)) 2 ((upd (upd (f) 0 ((f) 0 + q1)) 1 ((upd (f) 0 ((f) 0 + q1)) 1 + q2)) 2 + q3)) 3 ((upd (upd (upd (f) 0 ((f) 0 + q1)) 1 ((upd (f) 0 ((f) 0 + q1)) 1 + q2)) 2 ((upd (upd (f) 0 ((f) 0 + q1)) 1 ((upd (f) 0 ((f) 0 + q1)) 1 + q2)) 2 + q3)) 3 + q4)) 4 ((upd (upd (upd (upd (f) 0 ((f) 0 + q1)) 1 ((upd (f) 0 ((f) 0 + q1)) 1 + q2)) 2 ((upd (upd (f) 0 ((f) 0 + q1)) 1 ((upd (f) 0 ((f) 0 + q1)) 1 + q2)) 2 + q3)) 3 ((upd (upd (upd (f) 0 ((f) 0 + q1)) 1 ((upd (f) 0 ((f) 0 + q1)) 1 + q2)) 2 ((upd (upd (f) 0 ((f) 0 + q1)) 1 ((upd (f) 0 ((f) 0 + q1)) 1 + q2)) 2 + q3)) 3 + q4)) 4 + q5)) 5 ((upd (upd (upd (upd (upd (f) 0 ((f) 0 + q1)) 1 ((upd (f) 0 ((f) 0 + q1)) 1 + q2)) 2 ((upd (upd (f) 0 ((f) 0 + q1)) 1 ((upd (f) 0 ((f) 0 + q1)) 1 + q2)) 2 + q3)) 3 ((upd (upd (upd (f) 0 ((f) 0 + q1)) 1 ((upd (f) 0 ((f) 0 + q1)) 1 + q2)) 2 ((upd (upd (f) 0 ((f) 0 + q1)) 1 ((upd (f) 0 ((f) 0 + q1)) 1 + q2)) 2 + q3)) 3 + q4)) 4 ((upd (upd (upd (upd (f) 0 ((f) 0 + q1)) 1 ((upd (f) 0 ((f) 0 + q1)) 1 + q2)) 2 ((upd (upd (f) 0 ((f) 0 + q1)) 1 ((upd (f) 0 ((f) 0 + q1)) 1 + q2)) 2 + q3)) 3 ((upd (upd (upd (f) 0 ((f) 0 + q1)) 1 ((upd (f) 0 ((f) 0 + q1)) 1 + q2)) 2 ((upd (upd (f) 0 ((f) 0 + q1)) 1 ((upd (f) 0 ((f) 0 + q1)) 1 + q2)) 2 + q3)) 3 + q4)) 4 + q5)) 5 + q6)) 6 + q7)) 7 + q8)
def sh_in (f : Nat → Int32) : sh_T := (f 0, f 1, f 2, f 3, f 4, f 5, f 6, f 7)
/-- one block more -/
def sh_comp (f b : Nat → Int32) : Nat → Int32 := sh_acc f (sh_rounds (sh_wf b 64) 64 (sh_in f))
set_option maxHeartbeats 4000000 in
set_option maxRecDepth 100000 in
/-- Sha256.mix -/
theorem m_Sh_mix (l : Launch) (dC : Nat → ClassId) (dI : Nat → Nat → Nat) (cI cB cL cZ cR : ClassId) (h sm wd : Nat) (sh_block sh_filled sh_taken : Value) (f w : Nat → Int32) (sz : Nat) : Met l y_Sh_mix ws_Sh_mix ({ frames := 0, cells := 0, slots := 0, locals := 0 }) (xw_Px dC dI [(cI, .int), (cB, .byte), (cL, .long), (cZ, .boolean), (cR, .object "PatchStore$Repository")] [.ref h] [(h, .inr (8, [.ref sm, .ref wd, sh_block, sh_filled, sh_taken])), (sm, .inl (cI, 8, .inl f)), (wd, .inl (cI, 64, .inl w))] sz) (va_Qv (fun _ : Unit => True) (fun _ t => xw_B dC dI [(cI, .int), (cB, .byte), (cL, .long), (cZ, .boolean), (cR, .object "PatchStore$Repository")] (va_A [(h, .inr (8, [.ref sm, .ref wd, sh_block, sh_filled, sh_taken])), (sm, .inl (cI, 8, .inl f)), (wd, .inl (cI, 64, .inl w))] sz) [(h, .inr (8, [.ref sm, .ref wd, sh_block, sh_filled, sh_taken])), (sm, .inl (cI, 8, .inl (sh_acc f (sh_rounds w 64 (sh_in f))))), (wd, .inl (cI, 64, .inl w))] t) (va_A [(h, .inr (8, [.ref sm, .ref wd, sh_block, sh_filled, sh_taken])), (sm, .inl (cI, 8, .inl f)), (wd, .inl (cI, 64, .inl w))] sz)) 0 0 (va_A [(h, .inr (8, [.ref sm, .ref wd, sh_block, sh_filled, sh_taken])), (sm, .inl (cI, 8, .inl f)), (wd, .inl (cI, 64, .inl w))] sz) := by
  refine Met.ofW (cc := prog_9_method_7_code) (maxL := 14) (ret := none) (by decide) rfl ?_
  intro p e s m args below meth c s₁ B hml hv
  obtain ⟨rfl, hsz, hP, hK, hD0, hN, hTh⟩ := hv
  have hx := B.exec
  have hb := B.bytes
  have hr := B.returns
  have hts0 := atoms_spec (ws := ws_Sh_mix) B.pre
  have hts : ∀ w ∈ xg_1, w.before _ s = true := fun w h => hts0 w (List.mem_cons_of_mem _ h)
  have hown : s.vm.findClass "PatchStore$Sha256" = some m.cls := findClass_of_methodNamed B.named
  have hlocks := B.notSynchronized
  subst hsz
  have hD := hD0.self (sz := s.heap.size)
  generalize hAe : va_A [(h, .inr (8, [.ref sm, .ref wd, sh_block, sh_filled, sh_taken])), (sm, .inl (cI, 8, .inl f)), (wd, .inl (cI, 64, .inl w))] s.heap.size = A at hD hTh ⊢
  obtain ⟨t_START, hZ_START, hT_START⟩ := hTh.2.1
  obtain ⟨t_ROUND, hZ_ROUND, hT_ROUND⟩ := hTh.2.2.1
  obtain ⟨t_FIRST, hZ_FIRST, hT_FIRST⟩ := hTh.2.2.2.1
  obtain ⟨t_ROOTS, hZ_ROOTS, hT_ROOTS⟩ := hTh.2.2.2.2.1
  have hA : ∀ q : Nat, s.heap.size ≤ q → A q := fun q h => by rw [← hAe]; exact Or.inr h
  have hS : va_S A s.heap s.heap [] := va_S.rf
  have hl := lv_entry ([.ref h]) (n := 14) (Nat.le_of_ble_eq_true rfl)
  rw [lg_entry_eq]
  generalize (lg_sl ([.ref h]) ++ List.replicate (14 - (lg_sl ([.ref h])).length) Slot.unset).toArray = ls at hl ⊢
  have hl : lv_has ls 14 [(0, .ref h)] := hl
  generalize hQe : MQ _ _ _ _ _ _ _ = Q
  refine lv_aload_n hx hb d_Sh_mix_0 rfl (lv_at hl 0 rfl) ?_
  refine va_get (D := (dC, dI)) (ci := 8) (v := .ref sm) (C := R_Sh) (T := F_Sh) (N := 5) hx hb hts i_Sh hown hK hP 0 rfl rfl 0 (by decide) (hts _ gw_54) (fun _ h9 => h9) rfl d_Sh_mix_1 ?_
  refine lv_iconst (v := 0) hx hb d_Sh_mix_4 (by decide) ?_
  refine va_iald hx hb hK hP 1 0 rfl rfl (vp_in_nI (n := 0) (by omega) (by omega)) d_Sh_mix_5 ?_
  rw [show (0 : Int32).toNatClampNeg = 0 from rfl]
  refine lv_istore_n (lv' := [(1, .int (f 0)), (0, .ref h)]) hx hb d_Sh_mix_6 rfl hl (by decide) rfl (fun ls hl => ?_)
  refine lv_aload_n hx hb d_Sh_mix_7 rfl (lv_at hl 1 rfl) ?_
  refine va_get (D := (dC, dI)) (ci := 8) (v := .ref sm) (C := R_Sh) (T := F_Sh) (N := 5) hx hb hts i_Sh hown hK hP 0 rfl rfl 0 (by decide) (hts _ gw_54) (fun _ h9 => h9) rfl d_Sh_mix_8 ?_
  refine lv_iconst (v := 1) hx hb d_Sh_mix_11 (by decide) ?_
  refine va_iald hx hb hK hP 1 0 rfl rfl (vp_in_nI (n := 1) (by omega) (by omega)) d_Sh_mix_12 ?_
  rw [show (1 : Int32).toNatClampNeg = 1 from rfl]
  refine lv_istore_n (lv' := [(2, .int (f 1)), (1, .int (f 0)), (0, .ref h)]) hx hb d_Sh_mix_13 rfl hl (by decide) rfl (fun ls hl => ?_)
  refine lv_aload_n hx hb d_Sh_mix_14 rfl (lv_at hl 2 rfl) ?_
  refine va_get (D := (dC, dI)) (ci := 8) (v := .ref sm) (C := R_Sh) (T := F_Sh) (N := 5) hx hb hts i_Sh hown hK hP 0 rfl rfl 0 (by decide) (hts _ gw_54) (fun _ h9 => h9) rfl d_Sh_mix_15 ?_
  refine lv_iconst (v := 2) hx hb d_Sh_mix_18 (by decide) ?_
  refine va_iald hx hb hK hP 1 0 rfl rfl (vp_in_nI (n := 2) (by omega) (by omega)) d_Sh_mix_19 ?_
  rw [show (2 : Int32).toNatClampNeg = 2 from rfl]
  refine lv_istore_n (lv' := [(3, .int (f 2)), (2, .int (f 1)), (1, .int (f 0)), (0, .ref h)]) hx hb d_Sh_mix_20 rfl hl (by decide) rfl (fun ls hl => ?_)
  refine lv_aload_n hx hb d_Sh_mix_21 rfl (lv_at hl 3 rfl) ?_
  refine va_get (D := (dC, dI)) (ci := 8) (v := .ref sm) (C := R_Sh) (T := F_Sh) (N := 5) hx hb hts i_Sh hown hK hP 0 rfl rfl 0 (by decide) (hts _ gw_54) (fun _ h9 => h9) rfl d_Sh_mix_22 ?_
  refine lv_iconst (v := 3) hx hb d_Sh_mix_25 (by decide) ?_
  refine va_iald hx hb hK hP 1 0 rfl rfl (vp_in_nI (n := 3) (by omega) (by omega)) d_Sh_mix_26 ?_
  rw [show (3 : Int32).toNatClampNeg = 3 from rfl]
  refine lv_istore (lv' := [(4, .int (f 3)), (3, .int (f 2)), (2, .int (f 1)), (1, .int (f 0)), (0, .ref h)]) hx hb d_Sh_mix_27 hl (by decide) rfl (fun ls hl => ?_)
  refine lv_aload_n hx hb d_Sh_mix_29 rfl (lv_at hl 4 rfl) ?_
  refine va_get (D := (dC, dI)) (ci := 8) (v := .ref sm) (C := R_Sh) (T := F_Sh) (N := 5) hx hb hts i_Sh hown hK hP 0 rfl rfl 0 (by decide) (hts _ gw_54) (fun _ h9 => h9) rfl d_Sh_mix_30 ?_
  refine lv_iconst (v := 4) hx hb d_Sh_mix_33 (by decide) ?_
  refine va_iald hx hb hK hP 1 0 rfl rfl (vp_in_nI (n := 4) (by omega) (by omega)) d_Sh_mix_34 ?_
  rw [show (4 : Int32).toNatClampNeg = 4 from rfl]
  refine lv_istore (lv' := [(5, .int (f 4)), (4, .int (f 3)), (3, .int (f 2)), (2, .int (f 1)), (1, .int (f 0)), (0, .ref h)]) hx hb d_Sh_mix_35 hl (by decide) rfl (fun ls hl => ?_)
  refine lv_aload_n hx hb d_Sh_mix_37 rfl (lv_at hl 5 rfl) ?_
  refine va_get (D := (dC, dI)) (ci := 8) (v := .ref sm) (C := R_Sh) (T := F_Sh) (N := 5) hx hb hts i_Sh hown hK hP 0 rfl rfl 0 (by decide) (hts _ gw_54) (fun _ h9 => h9) rfl d_Sh_mix_38 ?_
  refine lv_iconst (v := 5) hx hb d_Sh_mix_41 (by decide) ?_
  refine va_iald hx hb hK hP 1 0 rfl rfl (vp_in_nI (n := 5) (by omega) (by omega)) d_Sh_mix_42 ?_
  rw [show (5 : Int32).toNatClampNeg = 5 from rfl]
  refine lv_istore (lv' := [(6, .int (f 5)), (5, .int (f 4)), (4, .int (f 3)), (3, .int (f 2)), (2, .int (f 1)), (1, .int (f 0)), (0, .ref h)]) hx hb d_Sh_mix_43 hl (by decide) rfl (fun ls hl => ?_)
  refine lv_aload_n hx hb d_Sh_mix_45 rfl (lv_at hl 6 rfl) ?_
  refine va_get (D := (dC, dI)) (ci := 8) (v := .ref sm) (C := R_Sh) (T := F_Sh) (N := 5) hx hb hts i_Sh hown hK hP 0 rfl rfl 0 (by decide) (hts _ gw_54) (fun _ h9 => h9) rfl d_Sh_mix_46 ?_
  refine lv_bipush (v := 6) hx hb d_Sh_mix_49 (by decide) ?_
  refine va_iald hx hb hK hP 1 0 rfl rfl (vp_in_nI (n := 6) (by omega) (by omega)) d_Sh_mix_51 ?_
  rw [show (6 : Int32).toNatClampNeg = 6 from rfl]
  refine lv_istore (lv' := [(7, .int (f 6)), (6, .int (f 5)), (5, .int (f 4)), (4, .int (f 3)), (3, .int (f 2)), (2, .int (f 1)), (1, .int (f 0)), (0, .ref h)]) hx hb d_Sh_mix_52 hl (by decide) rfl (fun ls hl => ?_)
  refine lv_aload_n hx hb d_Sh_mix_54 rfl (lv_at hl 7 rfl) ?_
  refine va_get (D := (dC, dI)) (ci := 8) (v := .ref sm) (C := R_Sh) (T := F_Sh) (N := 5) hx hb hts i_Sh hown hK hP 0 rfl rfl 0 (by decide) (hts _ gw_54) (fun _ h9 => h9) rfl d_Sh_mix_55 ?_
  refine lv_bipush (v := 7) hx hb d_Sh_mix_58 (by decide) ?_
  refine va_iald hx hb hK hP 1 0 rfl rfl (vp_in_nI (n := 7) (by omega) (by omega)) d_Sh_mix_60 ?_
  rw [show (7 : Int32).toNatClampNeg = 7 from rfl]
  refine lv_istore (lv' := [(8, .int (f 7)), (7, .int (f 6)), (6, .int (f 5)), (5, .int (f 4)), (4, .int (f 3)), (3, .int (f 2)), (2, .int (f 1)), (1, .int (f 0)), (0, .ref h)]) hx hb d_Sh_mix_61 hl (by decide) rfl (fun ls hl => ?_)
  refine lv_iconst (v := 0) hx hb d_Sh_mix_63 (by decide) ?_
  refine lv_istore (lv' := [(9, .int 0), (8, .int (f 7)), (7, .int (f 6)), (6, .int (f 5)), (5, .int (f 4)), (4, .int (f 3)), (3, .int (f 2)), (2, .int (f 1)), (1, .int (f 0)), (0, .ref h)]) hx hb d_Sh_mix_64 hl (by decide) rfl (fun ls hl => ?_)
  have loop_66 : ∀ (n : Nat) (k : Nat) (q1 : Int32) (q2 : Int32) (q3 : Int32) (q4 : Int32) (q5 : Int32) (q6 : Int32) (q7 : Int32) (q8 : Int32) (H : Heap) (locs : List Loc) (ls : Array Slot), 64 - k < n → (k ≤ 64) → (sh_rounds w k (sh_in f) = (q1, q2, q3, q4, q5, q6, q7, q8)) → va_P (dC, dI) classes [(h, .inr (8, [.ref sm, .ref wd, sh_block, sh_filled, sh_taken])), (sm, .inl (cI, 8, .inl f)), (wd, .inl (cI, 64, .inl w))] H → va_D A [(h, .inr (8, [.ref sm, .ref wd, sh_block, sh_filled, sh_taken])), (sm, .inl (cI, 8, .inl f)), (wd, .inl (cI, 64, .inl w))] → va_S A s.heap H locs → lv_has ls 14 [(0, .ref h), (1, .int q1), (2, .int q2), (3, .int q3), (4, .int q4), (5, .int q5), (6, .int q6), (7, .int q7), (8, .int q8), (9, .int (nI k))] → W p l e (headSpec ws_Sh_mix ({ frames := 0, cells := 0, slots := 0, locals := 0 })).room s m ([.ref h] : List Value).toArray below meth c H locs 0 0 Q (F0 m 66 ls []) := by
    intro n
    induction n with
    | zero => intro k q1 q2 q3 q4 q5 q6 q7 q8 H locs ls hm; exact absurd hm (Nat.not_lt_zero _)
    | succ n ih_66 =>
      intro k q1 q2 q3 q4 q5 q6 q7 q8 H locs ls hm hk hq hP hD hS hl
      refine lv_iload hx hb d_Sh_mix_66 (lv_at hl 9 rfl) ?_
      refine lv_bipush (v := 64) hx hb d_Sh_mix_68 (by decide) ?_
      refine lv_icmp_ge (tgt := 230) hx hb d_Sh_mix_70 (by decide) (fun c_70 => ?_) (fun c_70 => ?_)
      · have hk9 : k = 64 := by have := (nI_leI (a := 64) (b := k) (by omega) (by omega)).mp c_70; omega
        subst hk9
        refine lv_aload_n hx hb d_Sh_mix_230 rfl (lv_at hl 0 rfl) ?_
        refine va_get (D := (dC, dI)) (ci := 8) (v := .ref sm) (C := R_Sh) (T := F_Sh) (N := 5) hx hb hts i_Sh hown hK hP 0 rfl rfl 0 (by decide) (hts _ gw_54) (fun _ h9 => h9) rfl d_Sh_mix_231 ?_
        refine lv_iconst (v := 0) hx hb d_Sh_mix_234 (by decide) ?_
        refine lv_dup2_11 hx hb d_Sh_mix_235 rfl rfl ?_
        refine va_iald hx hb hK hP 1 0 rfl rfl (vp_in_nI (n := 0) (by omega) (by omega)) d_Sh_mix_236 ?_
        rw [show (0 : Int32).toNatClampNeg = 0 from rfl]
        refine lv_iload_n hx hb d_Sh_mix_237 rfl (lv_at hl 1 rfl) ?_
        refine lv_iadd hx hb d_Sh_mix_238 ?_
        refine va_iast hx hb hK hP hD hS 1 0 rfl rfl (vp_in_nI (n := 0) (by omega) (by omega)) d_Sh_mix_239 (fun H locs hP hD hS => ?_)
        rw [show (0 : Int32).toNatClampNeg = 0 from rfl] at hP hD
        have hP : va_P (dC, dI) classes [(h, .inr (8, [.ref sm, .ref wd, sh_block, sh_filled, sh_taken])), (sm, .inl (cI, 8, .inl (upd f 0 ((f 0) + q1)))), (wd, .inl (cI, 64, .inl w))] H := hP
        have hD : va_D A [(h, .inr (8, [.ref sm, .ref wd, sh_block, sh_filled, sh_taken])), (sm, .inl (cI, 8, .inl (upd f 0 ((f 0) + q1)))), (wd, .inl (cI, 64, .inl w))] := hD
        refine lv_aload_n hx hb d_Sh_mix_240 rfl (lv_at hl 0 rfl) ?_
        refine va_get (D := (dC, dI)) (ci := 8) (v := .ref sm) (C := R_Sh) (T := F_Sh) (N := 5) hx hb hts i_Sh hown hK hP 0 rfl rfl 0 (by decide) (hts _ gw_54) (fun _ h9 => h9) rfl d_Sh_mix_241 ?_
        refine lv_iconst (v := 1) hx hb d_Sh_mix_244 (by decide) ?_
        refine lv_dup2_11 hx hb d_Sh_mix_245 rfl rfl ?_
        refine va_iald hx hb hK hP 1 0 rfl rfl (vp_in_nI (n := 1) (by omega) (by omega)) d_Sh_mix_246 ?_
        rw [show (1 : Int32).toNatClampNeg = 1 from rfl]
        refine lv_iload_n hx hb d_Sh_mix_247 rfl (lv_at hl 2 rfl) ?_
        refine lv_iadd hx hb d_Sh_mix_248 ?_
        refine va_iast hx hb hK hP hD hS 1 0 rfl rfl (vp_in_nI (n := 1) (by omega) (by omega)) d_Sh_mix_249 (fun H locs hP hD hS => ?_)
        rw [show (1 : Int32).toNatClampNeg = 1 from rfl] at hP hD
        have hP : va_P (dC, dI) classes [(h, .inr (8, [.ref sm, .ref wd, sh_block, sh_filled, sh_taken])), (sm, .inl (cI, 8, .inl (upd (upd f 0 ((f 0) + q1)) 1 (((upd f 0 ((f 0) + q1)) 1) + q2)))), (wd, .inl (cI, 64, .inl w))] H := hP
        have hD : va_D A [(h, .inr (8, [.ref sm, .ref wd, sh_block, sh_filled, sh_taken])), (sm, .inl (cI, 8, .inl (upd (upd f 0 ((f 0) + q1)) 1 (((upd f 0 ((f 0) + q1)) 1) + q2)))), (wd, .inl (cI, 64, .inl w))] := hD
        refine lv_aload_n hx hb d_Sh_mix_250 rfl (lv_at hl 0 rfl) ?_
        refine va_get (D := (dC, dI)) (ci := 8) (v := .ref sm) (C := R_Sh) (T := F_Sh) (N := 5) hx hb hts i_Sh hown hK hP 0 rfl rfl 0 (by decide) (hts _ gw_54) (fun _ h9 => h9) rfl d_Sh_mix_251 ?_
        refine lv_iconst (v := 2) hx hb d_Sh_mix_254 (by decide) ?_
        refine lv_dup2_11 hx hb d_Sh_mix_255 rfl rfl ?_
        refine va_iald hx hb hK hP 1 0 rfl rfl (vp_in_nI (n := 2) (by omega) (by omega)) d_Sh_mix_256 ?_
        rw [show (2 : Int32).toNatClampNeg = 2 from rfl]
        refine lv_iload_n hx hb d_Sh_mix_257 rfl (lv_at hl 3 rfl) ?_
        refine lv_iadd hx hb d_Sh_mix_258 ?_
        refine va_iast hx hb hK hP hD hS 1 0 rfl rfl (vp_in_nI (n := 2) (by omega) (by omega)) d_Sh_mix_259 (fun H locs hP hD hS => ?_)
        rw [show (2 : Int32).toNatClampNeg = 2 from rfl] at hP hD
        have hP : va_P (dC, dI) classes [(h, .inr (8, [.ref sm, .ref wd, sh_block, sh_filled, sh_taken])), (sm, .inl (cI, 8, .inl (upd (upd (upd f 0 ((f 0) + q1)) 1 (((upd f 0 ((f 0) + q1)) 1) + q2)) 2 (((upd (upd f 0 ((f 0) + q1)) 1 (((upd f 0 ((f 0) + q1)) 1) + q2)) 2) + q3)))), (wd, .inl (cI, 64, .inl w))] H := hP
        have hD : va_D A [(h, .inr (8, [.ref sm, .ref wd, sh_block, sh_filled, sh_taken])), (sm, .inl (cI, 8, .inl (upd (upd (upd f 0 ((f 0) + q1)) 1 (((upd f 0 ((f 0) + q1)) 1) + q2)) 2 (((upd (upd f 0 ((f 0) + q1)) 1 (((upd f 0 ((f 0) + q1)) 1) + q2)) 2) + q3)))), (wd, .inl (cI, 64, .inl w))] := hD
        refine lv_aload_n hx hb d_Sh_mix_260 rfl (lv_at hl 0 rfl) ?_
        refine va_get (D := (dC, dI)) (ci := 8) (v := .ref sm) (C := R_Sh) (T := F_Sh) (N := 5) hx hb hts i_Sh hown hK hP 0 rfl rfl 0 (by decide) (hts _ gw_54) (fun _ h9 => h9) rfl d_Sh_mix_261 ?_
        refine lv_iconst (v := 3) hx hb d_Sh_mix_264 (by decide) ?_
        refine lv_dup2_11 hx hb d_Sh_mix_265 rfl rfl ?_
        refine va_iald hx hb hK hP 1 0 rfl rfl (vp_in_nI (n := 3) (by omega) (by omega)) d_Sh_mix_266 ?_
        rw [show (3 : Int32).toNatClampNeg = 3 from rfl]
        refine lv_iload hx hb d_Sh_mix_267 (lv_at hl 4 rfl) ?_
        refine lv_iadd hx hb d_Sh_mix_269 ?_
        refine va_iast hx hb hK hP hD hS 1 0 rfl rfl (vp_in_nI (n := 3) (by omega) (by omega)) d_Sh_mix_270 (fun H locs hP hD hS => ?_)
        rw [show (3 : Int32).toNatClampNeg = 3 from rfl] at hP hD
        have hP : va_P (dC, dI) classes [(h, .inr (8, [.ref sm, .ref wd, sh_block, sh_filled, sh_taken])), (sm, .inl (cI, 8, .inl (upd (upd (upd (upd f 0 ((f 0) + q1)) 1 (((upd f 0 ((f 0) + q1)) 1) + q2)) 2 (((upd (upd f 0 ((f 0) + q1)) 1 (((upd f 0 ((f 0) + q1)) 1) + q2)) 2) + q3)) 3 (((upd (upd (upd f 0 ((f 0) + q1)) 1 (((upd f 0 ((f 0) + q1)) 1) + q2)) 2 (((upd (upd f 0 ((f 0) + q1)) 1 (((upd f 0 ((f 0) + q1)) 1) + q2)) 2) + q3)) 3) + q4)))), (wd, .inl (cI, 64, .inl w))] H := hP
        have hD : va_D A [(h, .inr (8, [.ref sm, .ref wd, sh_block, sh_filled, sh_taken])), (sm, .inl (cI, 8, .inl (upd (upd (upd (upd f 0 ((f 0) + q1)) 1 (((upd f 0 ((f 0) + q1)) 1) + q2)) 2 (((upd (upd f 0 ((f 0) + q1)) 1 (((upd f 0 ((f 0) + q1)) 1) + q2)) 2) + q3)) 3 (((upd (upd (upd f 0 ((f 0) + q1)) 1 (((upd f 0 ((f 0) + q1)) 1) + q2)) 2 (((upd (upd f 0 ((f 0) + q1)) 1 (((upd f 0 ((f 0) + q1)) 1) + q2)) 2) + q3)) 3) + q4)))), (wd, .inl (cI, 64, .inl w))] := hD
        refine lv_aload_n hx hb d_Sh_mix_271 rfl (lv_at hl 0 rfl) ?_
        refine va_get (D := (dC, dI)) (ci := 8) (v := .ref sm) (C := R_Sh) (T := F_Sh) (N := 5) hx hb hts i_Sh hown hK hP 0 rfl rfl 0 (by decide) (hts _ gw_54) (fun _ h9 => h9) rfl d_Sh_mix_272 ?_
        refine lv_iconst (v := 4) hx hb d_Sh_mix_275 (by decide) ?_
        refine lv_dup2_11 hx hb d_Sh_mix_276 rfl rfl ?_
        refine va_iald hx hb hK hP 1 0 rfl rfl (vp_in_nI (n := 4) (by omega) (by omega)) d_Sh_mix_277 ?_
        rw [show (4 : Int32).toNatClampNeg = 4 from rfl]
        refine lv_iload hx hb d_Sh_mix_278 (lv_at hl 5 rfl) ?_
        refine lv_iadd hx hb d_Sh_mix_280 ?_
        refine va_iast hx hb hK hP hD hS 1 0 rfl rfl (vp_in_nI (n := 4) (by omega) (by omega)) d_Sh_mix_281 (fun H locs hP hD hS => ?_)
        rw [show (4 : Int32).toNatClampNeg = 4 from rfl] at hP hD
        have hP : va_P (dC, dI) classes [(h, .inr (8, [.ref sm, .ref wd, sh_block, sh_filled, sh_taken])), (sm, .inl (cI, 8, .inl (upd (upd (upd (upd (upd f 0 ((f 0) + q1)) 1 (((upd f 0 ((f 0) + q1)) 1) + q2)) 2 (((upd (upd f 0 ((f 0) + q1)) 1 (((upd f 0 ((f 0) + q1)) 1) + q2)) 2) + q3)) 3 (((upd (upd (upd f 0 ((f 0) + q1)) 1 (((upd f 0 ((f 0) + q1)) 1) + q2)) 2 (((upd (upd f 0 ((f 0) + q1)) 1 (((upd f 0 ((f 0) + q1)) 1) + q2)) 2) + q3)) 3) + q4)) 4 (((upd (upd (upd (upd f 0 ((f 0) + q1)) 1 (((upd f 0 ((f 0) + q1)) 1) + q2)) 2 (((upd (upd f 0 ((f 0) + q1)) 1 (((upd f 0 ((f 0) + q1)) 1) + q2)) 2) + q3)) 3 (((upd (upd (upd f 0 ((f 0) + q1)) 1 (((upd f 0 ((f 0) + q1)) 1) + q2)) 2 (((upd (upd f 0 ((f 0) + q1)) 1 (((upd f 0 ((f 0) + q1)) 1) + q2)) 2) + q3)) 3) + q4)) 4) + q5)))), (wd, .inl (cI, 64, .inl w))] H := hP
        have hD : va_D A [(h, .inr (8, [.ref sm, .ref wd, sh_block, sh_filled, sh_taken])), (sm, .inl (cI, 8, .inl (upd (upd (upd (upd (upd f 0 ((f 0) + q1)) 1 (((upd f 0 ((f 0) + q1)) 1) + q2)) 2 (((upd (upd f 0 ((f 0) + q1)) 1 (((upd f 0 ((f 0) + q1)) 1) + q2)) 2) + q3)) 3 (((upd (upd (upd f 0 ((f 0) + q1)) 1 (((upd f 0 ((f 0) + q1)) 1) + q2)) 2 (((upd (upd f 0 ((f 0) + q1)) 1 (((upd f 0 ((f 0) + q1)) 1) + q2)) 2) + q3)) 3) + q4)) 4 (((upd (upd (upd (upd f 0 ((f 0) + q1)) 1 (((upd f 0 ((f 0) + q1)) 1) + q2)) 2 (((upd (upd f 0 ((f 0) + q1)) 1 (((upd f 0 ((f 0) + q1)) 1) + q2)) 2) + q3)) 3 (((upd (upd (upd f 0 ((f 0) + q1)) 1 (((upd f 0 ((f 0) + q1)) 1) + q2)) 2 (((upd (upd f 0 ((f 0) + q1)) 1 (((upd f 0 ((f 0) + q1)) 1) + q2)) 2) + q3)) 3) + q4)) 4) + q5)))), (wd, .inl (cI, 64, .inl w))] := hD
        refine lv_aload_n hx hb d_Sh_mix_282 rfl (lv_at hl 0 rfl) ?_
        refine va_get (D := (dC, dI)) (ci := 8) (v := .ref sm) (C := R_Sh) (T := F_Sh) (N := 5) hx hb hts i_Sh hown hK hP 0 rfl rfl 0 (by decide) (hts _ gw_54) (fun _ h9 => h9) rfl d_Sh_mix_283 ?_
        refine lv_iconst (v := 5) hx hb d_Sh_mix_286 (by decide) ?_
        refine lv_dup2_11 hx hb d_Sh_mix_287 rfl rfl ?_
        refine va_iald hx hb hK hP 1 0 rfl rfl (vp_in_nI (n := 5) (by omega) (by omega)) d_Sh_mix_288 ?_
        rw [show (5 : Int32).toNatClampNeg = 5 from rfl]
        refine lv_iload hx hb d_Sh_mix_289 (lv_at hl 6 rfl) ?_
        refine lv_iadd hx hb d_Sh_mix_291 ?_
        refine va_iast hx hb hK hP hD hS 1 0 rfl rfl (vp_in_nI (n := 5) (by omega) (by omega)) d_Sh_mix_292 (fun H locs hP hD hS => ?_)
        rw [show (5 : Int32).toNatClampNeg = 5 from rfl] at hP hD
        have hP : va_P (dC, dI) classes [(h, .inr (8, [.ref sm, .ref wd, sh_block, sh_filled, sh_taken])), (sm, .inl (cI, 8, .inl (upd (upd (upd (upd (upd (upd f 0 ((f 0) + q1)) 1 (((upd f 0 ((f 0) + q1)) 1) + q2)) 2 (((upd (upd f 0 ((f 0) + q1)) 1 (((upd f 0 ((f 0) + q1)) 1) + q2)) 2) + q3)) 3 (((upd (upd (upd f 0 ((f 0) + q1)) 1 (((upd f 0 ((f 0) + q1)) 1) + q2)) 2 (((upd (upd f 0 ((f 0) + q1)) 1 (((upd f 0 ((f 0) + q1)) 1) + q2)) 2) + q3)) 3) + q4)) 4 (((upd (upd (upd (upd f 0 ((f 0) + q1)) 1 (((upd f 0 ((f 0) + q1)) 1) + q2)) 2 (((upd (upd f 0 ((f 0) + q1)) 1 (((upd f 0 ((f 0) + q1)) 1) + q2)) 2) + q3)) 3 (((upd (upd (upd f 0 ((f 0) + q1)) 1 (((upd f 0 ((f 0) + q1)) 1) + q2)) 2 (((upd (upd f 0 ((f 0) + q1)) 1 (((upd f 0 ((f 0) + q1)) 1) + q2)) 2) + q3)) 3) + q4)) 4) + q5)) 5 (((upd (upd (upd (upd (upd f 0 ((f 0) + q1)) 1 (((upd f 0 ((f 0) + q1)) 1) + q2)) 2 (((upd (upd f 0 ((f 0) + q1)) 1 (((upd f 0 ((f 0) + q1)) 1) + q2)) 2) + q3)) 3 (((upd (upd (upd f 0 ((f 0) + q1)) 1 (((upd f 0 ((f 0) + q1)) 1) + q2)) 2 (((upd (upd f 0 ((f 0) + q1)) 1 (((upd f 0 ((f 0) + q1)) 1) + q2)) 2) + q3)) 3) + q4)) 4 (((upd (upd (upd (upd f 0 ((f 0) + q1)) 1 (((upd f 0 ((f 0) + q1)) 1) + q2)) 2 (((upd (upd f 0 ((f 0) + q1)) 1 (((upd f 0 ((f 0) + q1)) 1) + q2)) 2) + q3)) 3 (((upd (upd (upd f 0 ((f 0) + q1)) 1 (((upd f 0 ((f 0) + q1)) 1) + q2)) 2 (((upd (upd f 0 ((f 0) + q1)) 1 (((upd f 0 ((f 0) + q1)) 1) + q2)) 2) + q3)) 3) + q4)) 4) + q5)) 5) + q6)))), (wd, .inl (cI, 64, .inl w))] H := hP
        have hD : va_D A [(h, .inr (8, [.ref sm, .ref wd, sh_block, sh_filled, sh_taken])), (sm, .inl (cI, 8, .inl (upd (upd (upd (upd (upd (upd f 0 ((f 0) + q1)) 1 (((upd f 0 ((f 0) + q1)) 1) + q2)) 2 (((upd (upd f 0 ((f 0) + q1)) 1 (((upd f 0 ((f 0) + q1)) 1) + q2)) 2) + q3)) 3 (((upd (upd (upd f 0 ((f 0) + q1)) 1 (((upd f 0 ((f 0) + q1)) 1) + q2)) 2 (((upd (upd f 0 ((f 0) + q1)) 1 (((upd f 0 ((f 0) + q1)) 1) + q2)) 2) + q3)) 3) + q4)) 4 (((upd (upd (upd (upd f 0 ((f 0) + q1)) 1 (((upd f 0 ((f 0) + q1)) 1) + q2)) 2 (((upd (upd f 0 ((f 0) + q1)) 1 (((upd f 0 ((f 0) + q1)) 1) + q2)) 2) + q3)) 3 (((upd (upd (upd f 0 ((f 0) + q1)) 1 (((upd f 0 ((f 0) + q1)) 1) + q2)) 2 (((upd (upd f 0 ((f 0) + q1)) 1 (((upd f 0 ((f 0) + q1)) 1) + q2)) 2) + q3)) 3) + q4)) 4) + q5)) 5 (((upd (upd (upd (upd (upd f 0 ((f 0) + q1)) 1 (((upd f 0 ((f 0) + q1)) 1) + q2)) 2 (((upd (upd f 0 ((f 0) + q1)) 1 (((upd f 0 ((f 0) + q1)) 1) + q2)) 2) + q3)) 3 (((upd (upd (upd f 0 ((f 0) + q1)) 1 (((upd f 0 ((f 0) + q1)) 1) + q2)) 2 (((upd (upd f 0 ((f 0) + q1)) 1 (((upd f 0 ((f 0) + q1)) 1) + q2)) 2) + q3)) 3) + q4)) 4 (((upd (upd (upd (upd f 0 ((f 0) + q1)) 1 (((upd f 0 ((f 0) + q1)) 1) + q2)) 2 (((upd (upd f 0 ((f 0) + q1)) 1 (((upd f 0 ((f 0) + q1)) 1) + q2)) 2) + q3)) 3 (((upd (upd (upd f 0 ((f 0) + q1)) 1 (((upd f 0 ((f 0) + q1)) 1) + q2)) 2 (((upd (upd f 0 ((f 0) + q1)) 1 (((upd f 0 ((f 0) + q1)) 1) + q2)) 2) + q3)) 3) + q4)) 4) + q5)) 5) + q6)))), (wd, .inl (cI, 64, .inl w))] := hD
        refine lv_aload_n hx hb d_Sh_mix_293 rfl (lv_at hl 0 rfl) ?_
        refine va_get (D := (dC, dI)) (ci := 8) (v := .ref sm) (C := R_Sh) (T := F_Sh) (N := 5) hx hb hts i_Sh hown hK hP 0 rfl rfl 0 (by decide) (hts _ gw_54) (fun _ h9 => h9) rfl d_Sh_mix_294 ?_
        refine lv_bipush (v := 6) hx hb d_Sh_mix_297 (by decide) ?_
        refine lv_dup2_11 hx hb d_Sh_mix_299 rfl rfl ?_
        refine va_iald hx hb hK hP 1 0 rfl rfl (vp_in_nI (n := 6) (by omega) (by omega)) d_Sh_mix_300 ?_
        rw [show (6 : Int32).toNatClampNeg = 6 from rfl]
        refine lv_iload hx hb d_Sh_mix_301 (lv_at hl 7 rfl) ?_
        refine lv_iadd hx hb d_Sh_mix_303 ?_
        refine va_iast hx hb hK hP hD hS 1 0 rfl rfl (vp_in_nI (n := 6) (by omega) (by omega)) d_Sh_mix_304 (fun H locs hP hD hS => ?_)
        rw [show (6 : Int32).toNatClampNeg = 6 from rfl] at hP hD
        have hP : va_P (dC, dI) classes [(h, .inr (8, [.ref sm, .ref wd, sh_block, sh_filled, sh_taken])), (sm, .inl (cI, 8, .inl (upd (upd (upd (upd (upd (upd (upd f 0 ((f 0) + q1)) 1 (((upd f 0 ((f 0) + q1)) 1) + q2)) 2 (((upd (upd f 0 ((f 0) + q1)) 1 (((upd f 0 ((f 0) + q1)) 1) + q2)) 2) + q3)) 3 (((upd (upd (upd f 0 ((f 0) + q1)) 1 (((upd f 0 ((f 0) + q1)) 1) + q2)) 2 (((upd (upd f 0 ((f 0) + q1)) 1 (((upd f 0 ((f 0) + q1)) 1) + q2)) 2) + q3)) 3) + q4)) 4 (((upd (upd (upd (upd f 0 ((f 0) + q1)) 1 (((upd f 0 ((f 0) + q1)) 1) + q2)) 2 (((upd (upd f 0 ((f 0) + q1)) 1 (((upd f 0 ((f 0) + q1)) 1) + q2)) 2) + q3)) 3 (((upd (upd (upd f 0 ((f 0) + q1)) 1 (((upd f 0 ((f 0) + q1)) 1) + q2)) 2 (((upd (upd f 0 ((f 0) + q1)) 1 (((upd f 0 ((f 0) + q1)) 1) + q2)) 2) + q3)) 3) + q4)) 4) + q5)) 5 (((upd (upd (upd (upd (upd f 0 ((f 0) + q1)) 1 (((upd f 0 ((f 0) + q1)) 1) + q2)) 2 (((upd (upd f 0 ((f 0) + q1)) 1 (((upd f 0 ((f 0) + q1)) 1) + q2)) 2) + q3)) 3 (((upd (upd (upd f 0 ((f 0) + q1)) 1 (((upd f 0 ((f 0) + q1)) 1) + q2)) 2 (((upd (upd f 0 ((f 0) + q1)) 1 (((upd f 0 ((f 0) + q1)) 1) + q2)) 2) + q3)) 3) + q4)) 4 (((upd (upd (upd (upd f 0 ((f 0) + q1)) 1 (((upd f 0 ((f 0) + q1)) 1) + q2)) 2 (((upd (upd f 0 ((f 0) + q1)) 1 (((upd f 0 ((f 0) + q1)) 1) + q2)) 2) + q3)) 3 (((upd (upd (upd f 0 ((f 0) + q1)) 1 (((upd f 0 ((f 0) + q1)) 1) + q2)) 2 (((upd (upd f 0 ((f 0) + q1)) 1 (((upd f 0 ((f 0) + q1)) 1) + q2)) 2) + q3)) 3) + q4)) 4) + q5)) 5) + q6)) 6 (((upd (upd (upd (upd (upd (upd f 0 ((f 0) + q1)) 1 (((upd f 0 ((f 0) + q1)) 1) + q2)) 2 (((upd (upd f 0 ((f 0) + q1)) 1 (((upd f 0 ((f 0) + q1)) 1) + q2)) 2) + q3)) 3 (((upd (upd (upd f 0 ((f 0) + q1)) 1 (((upd f 0 ((f 0) + q1)) 1) + q2)) 2 (((upd (upd f 0 ((f 0) + q1)) 1 (((upd f 0 ((f 0) + q1)) 1) + q2)) 2) + q3)) 3) + q4)) 4 (((upd (upd (upd (upd f 0 ((f 0) + q1)) 1 (((upd f 0 ((f 0) + q1)) 1) + q2)) 2 (((upd (upd f 0 ((f 0) + q1)) 1 (((upd f 0 ((f 0) + q1)) 1) + q2)) 2) + q3)) 3 (((upd (upd (upd f 0 ((f 0) + q1)) 1 (((upd f 0 ((f 0) + q1)) 1) + q2)) 2 (((upd (upd f 0 ((f 0) + q1)) 1 (((upd f 0 ((f 0) + q1)) 1) + q2)) 2) + q3)) 3) + q4)) 4) + q5)) 5 (((upd (upd (upd (upd (upd f 0 ((f 0) + q1)) 1 (((upd f 0 ((f 0) + q1)) 1) + q2)) 2 (((upd (upd f 0 ((f 0) + q1)) 1 (((upd f 0 ((f 0) + q1)) 1) + q2)) 2) + q3)) 3 (((upd (upd (upd f 0 ((f 0) + q1)) 1 (((upd f 0 ((f 0) + q1)) 1) + q2)) 2 (((upd (upd f 0 ((f 0) + q1)) 1 (((upd f 0 ((f 0) + q1)) 1) + q2)) 2) + q3)) 3) + q4)) 4 (((upd (upd (upd (upd f 0 ((f 0) + q1)) 1 (((upd f 0 ((f 0) + q1)) 1) + q2)) 2 (((upd (upd f 0 ((f 0) + q1)) 1 (((upd f 0 ((f 0) + q1)) 1) + q2)) 2) + q3)) 3 (((upd (upd (upd f 0 ((f 0) + q1)) 1 (((upd f 0 ((f 0) + q1)) 1) + q2)) 2 (((upd (upd f 0 ((f 0) + q1)) 1 (((upd f 0 ((f 0) + q1)) 1) + q2)) 2) + q3)) 3) + q4)) 4) + q5)) 5) + q6)) 6) + q7)))), (wd, .inl (cI, 64, .inl w))] H := hP
        have hD : va_D A [(h, .inr (8, [.ref sm, .ref wd, sh_block, sh_filled, sh_taken])), (sm, .inl (cI, 8, .inl (upd (upd (upd (upd (upd (upd (upd f 0 ((f 0) + q1)) 1 (((upd f 0 ((f 0) + q1)) 1) + q2)) 2 (((upd (upd f 0 ((f 0) + q1)) 1 (((upd f 0 ((f 0) + q1)) 1) + q2)) 2) + q3)) 3 (((upd (upd (upd f 0 ((f 0) + q1)) 1 (((upd f 0 ((f 0) + q1)) 1) + q2)) 2 (((upd (upd f 0 ((f 0) + q1)) 1 (((upd f 0 ((f 0) + q1)) 1) + q2)) 2) + q3)) 3) + q4)) 4 (((upd (upd (upd (upd f 0 ((f 0) + q1)) 1 (((upd f 0 ((f 0) + q1)) 1) + q2)) 2 (((upd (upd f 0 ((f 0) + q1)) 1 (((upd f 0 ((f 0) + q1)) 1) + q2)) 2) + q3)) 3 (((upd (upd (upd f 0 ((f 0) + q1)) 1 (((upd f 0 ((f 0) + q1)) 1) + q2)) 2 (((upd (upd f 0 ((f 0) + q1)) 1 (((upd f 0 ((f 0) + q1)) 1) + q2)) 2) + q3)) 3) + q4)) 4) + q5)) 5 (((upd (upd (upd (upd (upd f 0 ((f 0) + q1)) 1 (((upd f 0 ((f 0) + q1)) 1) + q2)) 2 (((upd (upd f 0 ((f 0) + q1)) 1 (((upd f 0 ((f 0) + q1)) 1) + q2)) 2) + q3)) 3 (((upd (upd (upd f 0 ((f 0) + q1)) 1 (((upd f 0 ((f 0) + q1)) 1) + q2)) 2 (((upd (upd f 0 ((f 0) + q1)) 1 (((upd f 0 ((f 0) + q1)) 1) + q2)) 2) + q3)) 3) + q4)) 4 (((upd (upd (upd (upd f 0 ((f 0) + q1)) 1 (((upd f 0 ((f 0) + q1)) 1) + q2)) 2 (((upd (upd f 0 ((f 0) + q1)) 1 (((upd f 0 ((f 0) + q1)) 1) + q2)) 2) + q3)) 3 (((upd (upd (upd f 0 ((f 0) + q1)) 1 (((upd f 0 ((f 0) + q1)) 1) + q2)) 2 (((upd (upd f 0 ((f 0) + q1)) 1 (((upd f 0 ((f 0) + q1)) 1) + q2)) 2) + q3)) 3) + q4)) 4) + q5)) 5) + q6)) 6 (((upd (upd (upd (upd (upd (upd f 0 ((f 0) + q1)) 1 (((upd f 0 ((f 0) + q1)) 1) + q2)) 2 (((upd (upd f 0 ((f 0) + q1)) 1 (((upd f 0 ((f 0) + q1)) 1) + q2)) 2) + q3)) 3 (((upd (upd (upd f 0 ((f 0) + q1)) 1 (((upd f 0 ((f 0) + q1)) 1) + q2)) 2 (((upd (upd f 0 ((f 0) + q1)) 1 (((upd f 0 ((f 0) + q1)) 1) + q2)) 2) + q3)) 3) + q4)) 4 (((upd (upd (upd (upd f 0 ((f 0) + q1)) 1 (((upd f 0 ((f 0) + q1)) 1) + q2)) 2 (((upd (upd f 0 ((f 0) + q1)) 1 (((upd f 0 ((f 0) + q1)) 1) + q2)) 2) + q3)) 3 (((upd (upd (upd f 0 ((f 0) + q1)) 1 (((upd f 0 ((f 0) + q1)) 1) + q2)) 2 (((upd (upd f 0 ((f 0) + q1)) 1 (((upd f 0 ((f 0) + q1)) 1) + q2)) 2) + q3)) 3) + q4)) 4) + q5)) 5 (((upd (upd (upd (upd (upd f 0 ((f 0) + q1)) 1 (((upd f 0 ((f 0) + q1)) 1) + q2)) 2 (((upd (upd f 0 ((f 0) + q1)) 1 (((upd f 0 ((f 0) + q1)) 1) + q2)) 2) + q3)) 3 (((upd (upd (upd f 0 ((f 0) + q1)) 1 (((upd f 0 ((f 0) + q1)) 1) + q2)) 2 (((upd (upd f 0 ((f 0) + q1)) 1 (((upd f 0 ((f 0) + q1)) 1) + q2)) 2) + q3)) 3) + q4)) 4 (((upd (upd (upd (upd f 0 ((f 0) + q1)) 1 (((upd f 0 ((f 0) + q1)) 1) + q2)) 2 (((upd (upd f 0 ((f 0) + q1)) 1 (((upd f 0 ((f 0) + q1)) 1) + q2)) 2) + q3)) 3 (((upd (upd (upd f 0 ((f 0) + q1)) 1 (((upd f 0 ((f 0) + q1)) 1) + q2)) 2 (((upd (upd f 0 ((f 0) + q1)) 1 (((upd f 0 ((f 0) + q1)) 1) + q2)) 2) + q3)) 3) + q4)) 4) + q5)) 5) + q6)) 6) + q7)))), (wd, .inl (cI, 64, .inl w))] := hD
        refine lv_aload_n hx hb d_Sh_mix_305 rfl (lv_at hl 0 rfl) ?_
        refine va_get (D := (dC, dI)) (ci := 8) (v := .ref sm) (C := R_Sh) (T := F_Sh) (N := 5) hx hb hts i_Sh hown hK hP 0 rfl rfl 0 (by decide) (hts _ gw_54) (fun _ h9 => h9) rfl d_Sh_mix_306 ?_
        refine lv_bipush (v := 7) hx hb d_Sh_mix_309 (by decide) ?_
        refine lv_dup2_11 hx hb d_Sh_mix_311 rfl rfl ?_
        refine va_iald hx hb hK hP 1 0 rfl rfl (vp_in_nI (n := 7) (by omega) (by omega)) d_Sh_mix_312 ?_
        rw [show (7 : Int32).toNatClampNeg = 7 from rfl]
        refine lv_iload hx hb d_Sh_mix_313 (lv_at hl 8 rfl) ?_
        refine lv_iadd hx hb d_Sh_mix_315 ?_
        refine va_iast hx hb hK hP hD hS 1 0 rfl rfl (vp_in_nI (n := 7) (by omega) (by omega)) d_Sh_mix_316 (fun H locs hP hD hS => ?_)
        rw [show (7 : Int32).toNatClampNeg = 7 from rfl] at hP hD
        have hP : va_P (dC, dI) classes [(h, .inr (8, [.ref sm, .ref wd, sh_block, sh_filled, sh_taken])), (sm, .inl (cI, 8, .inl (upd (upd (upd (upd (upd (upd (upd (upd f 0 ((f 0) + q1)) 1 (((upd f 0 ((f 0) + q1)) 1) + q2)) 2 (((upd (upd f 0 ((f 0) + q1)) 1 (((upd f 0 ((f 0) + q1)) 1) + q2)) 2) + q3)) 3 (((upd (upd (upd f 0 ((f 0) + q1)) 1 (((upd f 0 ((f 0) + q1)) 1) + q2)) 2 (((upd (upd f 0 ((f 0) + q1)) 1 (((upd f 0 ((f 0) + q1)) 1) + q2)) 2) + q3)) 3) + q4)) 4 (((upd (upd (upd (upd f 0 ((f 0) + q1)) 1 (((upd f 0 ((f 0) + q1)) 1) + q2)) 2 (((upd (upd f 0 ((f 0) + q1)) 1 (((upd f 0 ((f 0) + q1)) 1) + q2)) 2) + q3)) 3 (((upd (upd (upd f 0 ((f 0) + q1)) 1 (((upd f 0 ((f 0) + q1)) 1) + q2)) 2 (((upd (upd f 0 ((f 0) + q1)) 1 (((upd f 0 ((f 0) + q1)) 1) + q2)) 2) + q3)) 3) + q4)) 4) + q5)) 5 (((upd (upd (upd (upd (upd f 0 ((f 0) + q1)) 1 (((upd f 0 ((f 0) + q1)) 1) + q2)) 2 (((upd (upd f 0 ((f 0) + q1)) 1 (((upd f 0 ((f 0) + q1)) 1) + q2)) 2) + q3)) 3 (((upd (upd (upd f 0 ((f 0) + q1)) 1 (((upd f 0 ((f 0) + q1)) 1) + q2)) 2 (((upd (upd f 0 ((f 0) + q1)) 1 (((upd f 0 ((f 0) + q1)) 1) + q2)) 2) + q3)) 3) + q4)) 4 (((upd (upd (upd (upd f 0 ((f 0) + q1)) 1 (((upd f 0 ((f 0) + q1)) 1) + q2)) 2 (((upd (upd f 0 ((f 0) + q1)) 1 (((upd f 0 ((f 0) + q1)) 1) + q2)) 2) + q3)) 3 (((upd (upd (upd f 0 ((f 0) + q1)) 1 (((upd f 0 ((f 0) + q1)) 1) + q2)) 2 (((upd (upd f 0 ((f 0) + q1)) 1 (((upd f 0 ((f 0) + q1)) 1) + q2)) 2) + q3)) 3) + q4)) 4) + q5)) 5) + q6)) 6 (((upd (upd (upd (upd (upd (upd f 0 ((f 0) + q1)) 1 (((upd f 0 ((f 0) + q1)) 1) + q2)) 2 (((upd (upd f 0 ((f 0) + q1)) 1 (((upd f 0 ((f 0) + q1)) 1) + q2)) 2) + q3)) 3 (((upd (upd (upd f 0 ((f 0) + q1)) 1 (((upd f 0 ((f 0) + q1)) 1) + q2)) 2 (((upd (upd f 0 ((f 0) + q1)) 1 (((upd f 0 ((f 0) + q1)) 1) + q2)) 2) + q3)) 3) + q4)) 4 (((upd (upd (upd (upd f 0 ((f 0) + q1)) 1 (((upd f 0 ((f 0) + q1)) 1) + q2)) 2 (((upd (upd f 0 ((f 0) + q1)) 1 (((upd f 0 ((f 0) + q1)) 1) + q2)) 2) + q3)) 3 (((upd (upd (upd f 0 ((f 0) + q1)) 1 (((upd f 0 ((f 0) + q1)) 1) + q2)) 2 (((upd (upd f 0 ((f 0) + q1)) 1 (((upd f 0 ((f 0) + q1)) 1) + q2)) 2) + q3)) 3) + q4)) 4) + q5)) 5 (((upd (upd (upd (upd (upd f 0 ((f 0) + q1)) 1 (((upd f 0 ((f 0) + q1)) 1) + q2)) 2 (((upd (upd f 0 ((f 0) + q1)) 1 (((upd f 0 ((f 0) + q1)) 1) + q2)) 2) + q3)) 3 (((upd (upd (upd f 0 ((f 0) + q1)) 1 (((upd f 0 ((f 0) + q1)) 1) + q2)) 2 (((upd (upd f 0 ((f 0) + q1)) 1 (((upd f 0 ((f 0) + q1)) 1) + q2)) 2) + q3)) 3) + q4)) 4 (((upd (upd (upd (upd f 0 ((f 0) + q1)) 1 (((upd f 0 ((f 0) + q1)) 1) + q2)) 2 (((upd (upd f 0 ((f 0) + q1)) 1 (((upd f 0 ((f 0) + q1)) 1) + q2)) 2) + q3)) 3 (((upd (upd (upd f 0 ((f 0) + q1)) 1 (((upd f 0 ((f 0) + q1)) 1) + q2)) 2 (((upd (upd f 0 ((f 0) + q1)) 1 (((upd f 0 ((f 0) + q1)) 1) + q2)) 2) + q3)) 3) + q4)) 4) + q5)) 5) + q6)) 6) + q7)) 7 (((upd (upd (upd (upd (upd (upd (upd f 0 ((f 0) + q1)) 1 (((upd f 0 ((f 0) + q1)) 1) + q2)) 2 (((upd (upd f 0 ((f 0) + q1)) 1 (((upd f 0 ((f 0) + q1)) 1) + q2)) 2) + q3)) 3 (((upd (upd (upd f 0 ((f 0) + q1)) 1 (((upd f 0 ((f 0) + q1)) 1) + q2)) 2 (((upd (upd f 0 ((f 0) + q1)) 1 (((upd f 0 ((f 0) + q1)) 1) + q2)) 2) + q3)) 3) + q4)) 4 (((upd (upd (upd (upd f 0 ((f 0) + q1)) 1 (((upd f 0 ((f 0) + q1)) 1) + q2)) 2 (((upd (upd f 0 ((f 0) + q1)) 1 (((upd f 0 ((f 0) + q1)) 1) + q2)) 2) + q3)) 3 (((upd (upd (upd f 0 ((f 0) + q1)) 1 (((upd f 0 ((f 0) + q1)) 1) + q2)) 2 (((upd (upd f 0 ((f 0) + q1)) 1 (((upd f 0 ((f 0) + q1)) 1) + q2)) 2) + q3)) 3) + q4)) 4) + q5)) 5 (((upd (upd (upd (upd (upd f 0 ((f 0) + q1)) 1 (((upd f 0 ((f 0) + q1)) 1) + q2)) 2 (((upd (upd f 0 ((f 0) + q1)) 1 (((upd f 0 ((f 0) + q1)) 1) + q2)) 2) + q3)) 3 (((upd (upd (upd f 0 ((f 0) + q1)) 1 (((upd f 0 ((f 0) + q1)) 1) + q2)) 2 (((upd (upd f 0 ((f 0) + q1)) 1 (((upd f 0 ((f 0) + q1)) 1) + q2)) 2) + q3)) 3) + q4)) 4 (((upd (upd (upd (upd f 0 ((f 0) + q1)) 1 (((upd f 0 ((f 0) + q1)) 1) + q2)) 2 (((upd (upd f 0 ((f 0) + q1)) 1 (((upd f 0 ((f 0) + q1)) 1) + q2)) 2) + q3)) 3 (((upd (upd (upd f 0 ((f 0) + q1)) 1 (((upd f 0 ((f 0) + q1)) 1) + q2)) 2 (((upd (upd f 0 ((f 0) + q1)) 1 (((upd f 0 ((f 0) + q1)) 1) + q2)) 2) + q3)) 3) + q4)) 4) + q5)) 5) + q6)) 6 (((upd (upd (upd (upd (upd (upd f 0 ((f 0) + q1)) 1 (((upd f 0 ((f 0) + q1)) 1) + q2)) 2 (((upd (upd f 0 ((f 0) + q1)) 1 (((upd f 0 ((f 0) + q1)) 1) + q2)) 2) + q3)) 3 (((upd (upd (upd f 0 ((f 0) + q1)) 1 (((upd f 0 ((f 0) + q1)) 1) + q2)) 2 (((upd (upd f 0 ((f 0) + q1)) 1 (((upd f 0 ((f 0) + q1)) 1) + q2)) 2) + q3)) 3) + q4)) 4 (((upd (upd (upd (upd f 0 ((f 0) + q1)) 1 (((upd f 0 ((f 0) + q1)) 1) + q2)) 2 (((upd (upd f 0 ((f 0) + q1)) 1 (((upd f 0 ((f 0) + q1)) 1) + q2)) 2) + q3)) 3 (((upd (upd (upd f 0 ((f 0) + q1)) 1 (((upd f 0 ((f 0) + q1)) 1) + q2)) 2 (((upd (upd f 0 ((f 0) + q1)) 1 (((upd f 0 ((f 0) + q1)) 1) + q2)) 2) + q3)) 3) + q4)) 4) + q5)) 5 (((upd (upd (upd (upd (upd f 0 ((f 0) + q1)) 1 (((upd f 0 ((f 0) + q1)) 1) + q2)) 2 (((upd (upd f 0 ((f 0) + q1)) 1 (((upd f 0 ((f 0) + q1)) 1) + q2)) 2) + q3)) 3 (((upd (upd (upd f 0 ((f 0) + q1)) 1 (((upd f 0 ((f 0) + q1)) 1) + q2)) 2 (((upd (upd f 0 ((f 0) + q1)) 1 (((upd f 0 ((f 0) + q1)) 1) + q2)) 2) + q3)) 3) + q4)) 4 (((upd (upd (upd (upd f 0 ((f 0) + q1)) 1 (((upd f 0 ((f 0) + q1)) 1) + q2)) 2 (((upd (upd f 0 ((f 0) + q1)) 1 (((upd f 0 ((f 0) + q1)) 1) + q2)) 2) + q3)) 3 (((upd (upd (upd f 0 ((f 0) + q1)) 1 (((upd f 0 ((f 0) + q1)) 1) + q2)) 2 (((upd (upd f 0 ((f 0) + q1)) 1 (((upd f 0 ((f 0) + q1)) 1) + q2)) 2) + q3)) 3) + q4)) 4) + q5)) 5) + q6)) 6) + q7)) 7) + q8)))), (wd, .inl (cI, 64, .inl w))] H := hP
        have hD : va_D A [(h, .inr (8, [.ref sm, .ref wd, sh_block, sh_filled, sh_taken])), (sm, .inl (cI, 8, .inl (upd (upd (upd (upd (upd (upd (upd (upd f 0 ((f 0) + q1)) 1 (((upd f 0 ((f 0) + q1)) 1) + q2)) 2 (((upd (upd f 0 ((f 0) + q1)) 1 (((upd f 0 ((f 0) + q1)) 1) + q2)) 2) + q3)) 3 (((upd (upd (upd f 0 ((f 0) + q1)) 1 (((upd f 0 ((f 0) + q1)) 1) + q2)) 2 (((upd (upd f 0 ((f 0) + q1)) 1 (((upd f 0 ((f 0) + q1)) 1) + q2)) 2) + q3)) 3) + q4)) 4 (((upd (upd (upd (upd f 0 ((f 0) + q1)) 1 (((upd f 0 ((f 0) + q1)) 1) + q2)) 2 (((upd (upd f 0 ((f 0) + q1)) 1 (((upd f 0 ((f 0) + q1)) 1) + q2)) 2) + q3)) 3 (((upd (upd (upd f 0 ((f 0) + q1)) 1 (((upd f 0 ((f 0) + q1)) 1) + q2)) 2 (((upd (upd f 0 ((f 0) + q1)) 1 (((upd f 0 ((f 0) + q1)) 1) + q2)) 2) + q3)) 3) + q4)) 4) + q5)) 5 (((upd (upd (upd (upd (upd f 0 ((f 0) + q1)) 1 (((upd f 0 ((f 0) + q1)) 1) + q2)) 2 (((upd (upd f 0 ((f 0) + q1)) 1 (((upd f 0 ((f 0) + q1)) 1) + q2)) 2) + q3)) 3 (((upd (upd (upd f 0 ((f 0) + q1)) 1 (((upd f 0 ((f 0) + q1)) 1) + q2)) 2 (((upd (upd f 0 ((f 0) + q1)) 1 (((upd f 0 ((f 0) + q1)) 1) + q2)) 2) + q3)) 3) + q4)) 4 (((upd (upd (upd (upd f 0 ((f 0) + q1)) 1 (((upd f 0 ((f 0) + q1)) 1) + q2)) 2 (((upd (upd f 0 ((f 0) + q1)) 1 (((upd f 0 ((f 0) + q1)) 1) + q2)) 2) + q3)) 3 (((upd (upd (upd f 0 ((f 0) + q1)) 1 (((upd f 0 ((f 0) + q1)) 1) + q2)) 2 (((upd (upd f 0 ((f 0) + q1)) 1 (((upd f 0 ((f 0) + q1)) 1) + q2)) 2) + q3)) 3) + q4)) 4) + q5)) 5) + q6)) 6 (((upd (upd (upd (upd (upd (upd f 0 ((f 0) + q1)) 1 (((upd f 0 ((f 0) + q1)) 1) + q2)) 2 (((upd (upd f 0 ((f 0) + q1)) 1 (((upd f 0 ((f 0) + q1)) 1) + q2)) 2) + q3)) 3 (((upd (upd (upd f 0 ((f 0) + q1)) 1 (((upd f 0 ((f 0) + q1)) 1) + q2)) 2 (((upd (upd f 0 ((f 0) + q1)) 1 (((upd f 0 ((f 0) + q1)) 1) + q2)) 2) + q3)) 3) + q4)) 4 (((upd (upd (upd (upd f 0 ((f 0) + q1)) 1 (((upd f 0 ((f 0) + q1)) 1) + q2)) 2 (((upd (upd f 0 ((f 0) + q1)) 1 (((upd f 0 ((f 0) + q1)) 1) + q2)) 2) + q3)) 3 (((upd (upd (upd f 0 ((f 0) + q1)) 1 (((upd f 0 ((f 0) + q1)) 1) + q2)) 2 (((upd (upd f 0 ((f 0) + q1)) 1 (((upd f 0 ((f 0) + q1)) 1) + q2)) 2) + q3)) 3) + q4)) 4) + q5)) 5 (((upd (upd (upd (upd (upd f 0 ((f 0) + q1)) 1 (((upd f 0 ((f 0) + q1)) 1) + q2)) 2 (((upd (upd f 0 ((f 0) + q1)) 1 (((upd f 0 ((f 0) + q1)) 1) + q2)) 2) + q3)) 3 (((upd (upd (upd f 0 ((f 0) + q1)) 1 (((upd f 0 ((f 0) + q1)) 1) + q2)) 2 (((upd (upd f 0 ((f 0) + q1)) 1 (((upd f 0 ((f 0) + q1)) 1) + q2)) 2) + q3)) 3) + q4)) 4 (((upd (upd (upd (upd f 0 ((f 0) + q1)) 1 (((upd f 0 ((f 0) + q1)) 1) + q2)) 2 (((upd (upd f 0 ((f 0) + q1)) 1 (((upd f 0 ((f 0) + q1)) 1) + q2)) 2) + q3)) 3 (((upd (upd (upd f 0 ((f 0) + q1)) 1 (((upd f 0 ((f 0) + q1)) 1) + q2)) 2 (((upd (upd f 0 ((f 0) + q1)) 1 (((upd f 0 ((f 0) + q1)) 1) + q2)) 2) + q3)) 3) + q4)) 4) + q5)) 5) + q6)) 6) + q7)) 7 (((upd (upd (upd (upd (upd (upd (upd f 0 ((f 0) + q1)) 1 (((upd f 0 ((f 0) + q1)) 1) + q2)) 2 (((upd (upd f 0 ((f 0) + q1)) 1 (((upd f 0 ((f 0) + q1)) 1) + q2)) 2) + q3)) 3 (((upd (upd (upd f 0 ((f 0) + q1)) 1 (((upd f 0 ((f 0) + q1)) 1) + q2)) 2 (((upd (upd f 0 ((f 0) + q1)) 1 (((upd f 0 ((f 0) + q1)) 1) + q2)) 2) + q3)) 3) + q4)) 4 (((upd (upd (upd (upd f 0 ((f 0) + q1)) 1 (((upd f 0 ((f 0) + q1)) 1) + q2)) 2 (((upd (upd f 0 ((f 0) + q1)) 1 (((upd f 0 ((f 0) + q1)) 1) + q2)) 2) + q3)) 3 (((upd (upd (upd f 0 ((f 0) + q1)) 1 (((upd f 0 ((f 0) + q1)) 1) + q2)) 2 (((upd (upd f 0 ((f 0) + q1)) 1 (((upd f 0 ((f 0) + q1)) 1) + q2)) 2) + q3)) 3) + q4)) 4) + q5)) 5 (((upd (upd (upd (upd (upd f 0 ((f 0) + q1)) 1 (((upd f 0 ((f 0) + q1)) 1) + q2)) 2 (((upd (upd f 0 ((f 0) + q1)) 1 (((upd f 0 ((f 0) + q1)) 1) + q2)) 2) + q3)) 3 (((upd (upd (upd f 0 ((f 0) + q1)) 1 (((upd f 0 ((f 0) + q1)) 1) + q2)) 2 (((upd (upd f 0 ((f 0) + q1)) 1 (((upd f 0 ((f 0) + q1)) 1) + q2)) 2) + q3)) 3) + q4)) 4 (((upd (upd (upd (upd f 0 ((f 0) + q1)) 1 (((upd f 0 ((f 0) + q1)) 1) + q2)) 2 (((upd (upd f 0 ((f 0) + q1)) 1 (((upd f 0 ((f 0) + q1)) 1) + q2)) 2) + q3)) 3 (((upd (upd (upd f 0 ((f 0) + q1)) 1 (((upd f 0 ((f 0) + q1)) 1) + q2)) 2 (((upd (upd f 0 ((f 0) + q1)) 1 (((upd f 0 ((f 0) + q1)) 1) + q2)) 2) + q3)) 3) + q4)) 4) + q5)) 5) + q6)) 6 (((upd (upd (upd (upd (upd (upd f 0 ((f 0) + q1)) 1 (((upd f 0 ((f 0) + q1)) 1) + q2)) 2 (((upd (upd f 0 ((f 0) + q1)) 1 (((upd f 0 ((f 0) + q1)) 1) + q2)) 2) + q3)) 3 (((upd (upd (upd f 0 ((f 0) + q1)) 1 (((upd f 0 ((f 0) + q1)) 1) + q2)) 2 (((upd (upd f 0 ((f 0) + q1)) 1 (((upd f 0 ((f 0) + q1)) 1) + q2)) 2) + q3)) 3) + q4)) 4 (((upd (upd (upd (upd f 0 ((f 0) + q1)) 1 (((upd f 0 ((f 0) + q1)) 1) + q2)) 2 (((upd (upd f 0 ((f 0) + q1)) 1 (((upd f 0 ((f 0) + q1)) 1) + q2)) 2) + q3)) 3 (((upd (upd (upd f 0 ((f 0) + q1)) 1 (((upd f 0 ((f 0) + q1)) 1) + q2)) 2 (((upd (upd f 0 ((f 0) + q1)) 1 (((upd f 0 ((f 0) + q1)) 1) + q2)) 2) + q3)) 3) + q4)) 4) + q5)) 5 (((upd (upd (upd (upd (upd f 0 ((f 0) + q1)) 1 (((upd f 0 ((f 0) + q1)) 1) + q2)) 2 (((upd (upd f 0 ((f 0) + q1)) 1 (((upd f 0 ((f 0) + q1)) 1) + q2)) 2) + q3)) 3 (((upd (upd (upd f 0 ((f 0) + q1)) 1 (((upd f 0 ((f 0) + q1)) 1) + q2)) 2 (((upd (upd f 0 ((f 0) + q1)) 1 (((upd f 0 ((f 0) + q1)) 1) + q2)) 2) + q3)) 3) + q4)) 4 (((upd (upd (upd (upd f 0 ((f 0) + q1)) 1 (((upd f 0 ((f 0) + q1)) 1) + q2)) 2 (((upd (upd f 0 ((f 0) + q1)) 1 (((upd f 0 ((f 0) + q1)) 1) + q2)) 2) + q3)) 3 (((upd (upd (upd f 0 ((f 0) + q1)) 1 (((upd f 0 ((f 0) + q1)) 1) + q2)) 2 (((upd (upd f 0 ((f 0) + q1)) 1 (((upd f 0 ((f 0) + q1)) 1) + q2)) 2) + q3)) 3) + q4)) 4) + q5)) 5) + q6)) 6) + q7)) 7) + q8)))), (wd, .inl (cI, 64, .inl w))] := hD
        rw [← hQe]
        rw [hq]
        exact W.vret hx hb hr (fun t ht hW => ⟨⟨(), rfl, trivial, by rw [ht]; exact hP, va_K.moved hW.alike hK, hD⟩, hS.F ht⟩) hS.2.2 d_Sh_mix_317
      · have hk9 : k < 64 := by rcases Nat.lt_or_ge k 64 with z | z; exact z; exact absurd (nI_le (a := 64) z (by omega)) c_70
        refine lv_iload hx hb d_Sh_mix_73 (lv_at hl 5 rfl) ?_
        refine lv_bipush (v := 6) hx hb d_Sh_mix_75 (by decide) ?_
        refine lv_iushr hx hb d_Sh_mix_77 rfl ?_
        refine lv_iload hx hb d_Sh_mix_78 (lv_at hl 5 rfl) ?_
        refine lv_bipush (v := 26) hx hb d_Sh_mix_80 (by decide) ?_
        refine lv_ishl hx hb d_Sh_mix_82 ?_
        refine lv_ior hx hb d_Sh_mix_83 ?_
        refine lv_iload hx hb d_Sh_mix_84 (lv_at hl 5 rfl) ?_
        refine lv_bipush (v := 11) hx hb d_Sh_mix_86 (by decide) ?_
        refine lv_iushr hx hb d_Sh_mix_88 rfl ?_
        refine lv_iload hx hb d_Sh_mix_89 (lv_at hl 5 rfl) ?_
        refine lv_bipush (v := 21) hx hb d_Sh_mix_91 (by decide) ?_
        refine lv_ishl hx hb d_Sh_mix_93 ?_
        refine lv_ior hx hb d_Sh_mix_94 ?_
        refine lv_ixor hx hb d_Sh_mix_95 ?_
        refine lv_iload hx hb d_Sh_mix_96 (lv_at hl 5 rfl) ?_
        refine lv_bipush (v := 25) hx hb d_Sh_mix_98 (by decide) ?_
        refine lv_iushr hx hb d_Sh_mix_100 rfl ?_
        refine lv_iload hx hb d_Sh_mix_101 (lv_at hl 5 rfl) ?_
        refine lv_bipush (v := 7) hx hb d_Sh_mix_103 (by decide) ?_
        refine lv_ishl hx hb d_Sh_mix_105 ?_
        refine lv_ior hx hb d_Sh_mix_106 ?_
        refine lv_ixor hx hb d_Sh_mix_107 ?_
        refine lv_topi (fun x_1 ex_1 => ?_)
        obtain rfl : x_1 = sh_right q5 := by rw [ex_1]; first | done | (rfl)
        refine lv_istore (lv' := [(10, .int (sh_right q5)), (0, .ref h), (1, .int q1), (2, .int q2), (3, .int q3), (4, .int q4), (5, .int q5), (6, .int q6), (7, .int q7), (8, .int q8), (9, .int (nI k))]) hx hb d_Sh_mix_108 hl (by decide) rfl (fun ls hl => ?_)
        refine lv_iload hx hb d_Sh_mix_110 (lv_at hl 9 rfl) ?_
        refine lv_iload hx hb d_Sh_mix_112 (lv_at hl 0 rfl) ?_
        refine lv_iadd hx hb d_Sh_mix_114 ?_
        refine lv_iload hx hb d_Sh_mix_115 (lv_at hl 6 rfl) ?_
        refine lv_iload hx hb d_Sh_mix_117 (lv_at hl 7 rfl) ?_
        refine lv_iand hx hb d_Sh_mix_119 ?_
        refine lv_iload hx hb d_Sh_mix_120 (lv_at hl 6 rfl) ?_
        refine lv_iconst (v := (-1)) hx hb d_Sh_mix_122 (by decide) ?_
        refine lv_ixor hx hb d_Sh_mix_123 ?_
        refine lv_iload hx hb d_Sh_mix_124 (lv_at hl 8 rfl) ?_
        refine lv_iand hx hb d_Sh_mix_126 ?_
        refine lv_ixor hx hb d_Sh_mix_127 ?_
        refine lv_iadd hx hb d_Sh_mix_128 ?_
        refine va_gets hx hb hZ_ROUND hS hown (hts _ gw_855) (fun _ h9 => h9) d_Sh_mix_129 ?_
        refine lv_iload hx hb d_Sh_mix_132 (lv_at hl 10 rfl) ?_
        refine va_ti (v := .int (sh_ROUND k)) hx hb hT_ROUND hS (vp_in_nI (by omega) (by omega)) (by rw [show (nI k).toNatClampNeg = k from nI_clamp (by omega)]) d_Sh_mix_134 ?_
        refine lv_iadd hx hb d_Sh_mix_135 ?_
        refine lv_aload_n hx hb d_Sh_mix_136 rfl (lv_at hl 1 rfl) ?_
        refine va_get (D := (dC, dI)) (ci := 8) (v := .ref wd) (C := R_Sh) (T := F_Sh) (N := 5) hx hb hts i_Sh hown hK hP 0 rfl rfl 1 (by decide) (hts _ gw_55) (fun _ h9 => h9) rfl d_Sh_mix_137 ?_
        refine lv_iload hx hb d_Sh_mix_140 (lv_at hl 10 rfl) ?_
        refine va_iald hx hb hK hP 2 0 rfl rfl (vp_in_nI (by omega) (by omega)) d_Sh_mix_142 ?_
        rw [show (nI k).toNatClampNeg = k from nI_clamp (by omega)]
        refine lv_iadd hx hb d_Sh_mix_143 ?_
        refine lv_topi (fun x_2 ex_2 => ?_)
        obtain rfl : x_2 = sh_one q5 q6 q7 q8 (sh_ROUND k) (w k) := by rw [ex_2]; first | done | (rfl)
        refine lv_istore (lv' := [(11, .int (sh_one q5 q6 q7 q8 (sh_ROUND k) (w k))), (10, .int (sh_right q5)), (0, .ref h), (1, .int q1), (2, .int q2), (3, .int q3), (4, .int q4), (5, .int q5), (6, .int q6), (7, .int q7), (8, .int q8), (9, .int (nI k))]) hx hb d_Sh_mix_144 hl (by decide) rfl (fun ls hl => ?_)
        refine lv_iload_n hx hb d_Sh_mix_146 rfl (lv_at hl 3 rfl) ?_
        refine lv_iconst (v := 2) hx hb d_Sh_mix_147 (by decide) ?_
        refine lv_iushr hx hb d_Sh_mix_148 rfl ?_
        refine lv_iload_n hx hb d_Sh_mix_149 rfl (lv_at hl 3 rfl) ?_
        refine lv_bipush (v := 30) hx hb d_Sh_mix_150 (by decide) ?_
        refine lv_ishl hx hb d_Sh_mix_152 ?_
        refine lv_ior hx hb d_Sh_mix_153 ?_
        refine lv_iload_n hx hb d_Sh_mix_154 rfl (lv_at hl 3 rfl) ?_
        refine lv_bipush (v := 13) hx hb d_Sh_mix_155 (by decide) ?_
        refine lv_iushr hx hb d_Sh_mix_157 rfl ?_
        refine lv_iload_n hx hb d_Sh_mix_158 rfl (lv_at hl 3 rfl) ?_
        refine lv_bipush (v := 19) hx hb d_Sh_mix_159 (by decide) ?_
        refine lv_ishl hx hb d_Sh_mix_161 ?_
        refine lv_ior hx hb d_Sh_mix_162 ?_
        refine lv_ixor hx hb d_Sh_mix_163 ?_
        refine lv_iload_n hx hb d_Sh_mix_164 rfl (lv_at hl 3 rfl) ?_
        refine lv_bipush (v := 22) hx hb d_Sh_mix_165 (by decide) ?_
        refine lv_iushr hx hb d_Sh_mix_167 rfl ?_
        refine lv_iload_n hx hb d_Sh_mix_168 rfl (lv_at hl 3 rfl) ?_
        refine lv_bipush (v := 10) hx hb d_Sh_mix_169 (by decide) ?_
        refine lv_ishl hx hb d_Sh_mix_171 ?_
        refine lv_ior hx hb d_Sh_mix_172 ?_
        refine lv_ixor hx hb d_Sh_mix_173 ?_
        refine lv_topi (fun x_3 ex_3 => ?_)
        obtain rfl : x_3 = sh_left q1 := by rw [ex_3]; first | done | (rfl)
        refine lv_istore (lv' := [(12, .int (sh_left q1)), (11, .int (sh_one q5 q6 q7 q8 (sh_ROUND k) (w k))), (10, .int (sh_right q5)), (0, .ref h), (1, .int q1), (2, .int q2), (3, .int q3), (4, .int q4), (5, .int q5), (6, .int q6), (7, .int q7), (8, .int q8), (9, .int (nI k))]) hx hb d_Sh_mix_174 hl (by decide) rfl (fun ls hl => ?_)
        refine lv_iload hx hb d_Sh_mix_176 (lv_at hl 0 rfl) ?_
        refine lv_iload_n hx hb d_Sh_mix_178 rfl (lv_at hl 4 rfl) ?_
        refine lv_iload_n hx hb d_Sh_mix_179 rfl (lv_at hl 5 rfl) ?_
        refine lv_iand hx hb d_Sh_mix_180 ?_
        refine lv_iload_n hx hb d_Sh_mix_181 rfl (lv_at hl 4 rfl) ?_
        refine lv_iload_n hx hb d_Sh_mix_182 rfl (lv_at hl 6 rfl) ?_
        refine lv_iand hx hb d_Sh_mix_183 ?_
        refine lv_ixor hx hb d_Sh_mix_184 ?_
        refine lv_iload_n hx hb d_Sh_mix_185 rfl (lv_at hl 5 rfl) ?_
        refine lv_iload_n hx hb d_Sh_mix_186 rfl (lv_at hl 6 rfl) ?_
        refine lv_iand hx hb d_Sh_mix_187 ?_
        refine lv_ixor hx hb d_Sh_mix_188 ?_
        refine lv_iadd hx hb d_Sh_mix_189 ?_
        refine lv_topi (fun x_4 ex_4 => ?_)
        obtain rfl : x_4 = sh_two q1 q2 q3 := by rw [ex_4]; first | done | (rfl)
        refine lv_istore (lv' := [(13, .int (sh_two q1 q2 q3)), (12, .int (sh_left q1)), (11, .int (sh_one q5 q6 q7 q8 (sh_ROUND k) (w k))), (10, .int (sh_right q5)), (0, .ref h), (1, .int q1), (2, .int q2), (3, .int q3), (4, .int q4), (5, .int q5), (6, .int q6), (7, .int q7), (8, .int q8), (9, .int (nI k))]) hx hb d_Sh_mix_190 hl (by decide) rfl (fun ls hl => ?_)
        refine lv_iload hx hb d_Sh_mix_192 (lv_at hl 11 rfl) ?_
        refine lv_istore (lv' := [(8, .int q7), (13, .int (sh_two q1 q2 q3)), (12, .int (sh_left q1)), (11, .int (sh_one q5 q6 q7 q8 (sh_ROUND k) (w k))), (10, .int (sh_right q5)), (0, .ref h), (1, .int q1), (2, .int q2), (3, .int q3), (4, .int q4), (5, .int q5), (6, .int q6), (7, .int q7), (9, .int (nI k))]) hx hb d_Sh_mix_194 hl (by decide) rfl (fun ls hl => ?_)
        refine lv_iload hx hb d_Sh_mix_196 (lv_at hl 11 rfl) ?_
        refine lv_istore (lv' := [(7, .int q6), (8, .int q7), (13, .int (sh_two q1 q2 q3)), (12, .int (sh_left q1)), (11, .int (sh_one q5 q6 q7 q8 (sh_ROUND k) (w k))), (10, .int (sh_right q5)), (0, .ref h), (1, .int q1), (2, .int q2), (3, .int q3), (4, .int q4), (5, .int q5), (6, .int q6), (9, .int (nI k))]) hx hb d_Sh_mix_198 hl (by decide) rfl (fun ls hl => ?_)
        refine lv_iload hx hb d_Sh_mix_200 (lv_at hl 11 rfl) ?_
        refine lv_istore (lv' := [(6, .int q5), (7, .int q6), (8, .int q7), (13, .int (sh_two q1 q2 q3)), (12, .int (sh_left q1)), (11, .int (sh_one q5 q6 q7 q8 (sh_ROUND k) (w k))), (10, .int (sh_right q5)), (0, .ref h), (1, .int q1), (2, .int q2), (3, .int q3), (4, .int q4), (5, .int q5), (9, .int (nI k))]) hx hb d_Sh_mix_202 hl (by decide) rfl (fun ls hl => ?_)
        refine lv_iload hx hb d_Sh_mix_204 (lv_at hl 11 rfl) ?_
        refine lv_iload hx hb d_Sh_mix_206 (lv_at hl 5 rfl) ?_
        refine lv_iadd hx hb d_Sh_mix_208 ?_
        refine lv_istore (lv' := [(5, .int (q4 + (sh_one q5 q6 q7 q8 (sh_ROUND k) (w k)))), (6, .int q5), (7, .int q6), (8, .int q7), (13, .int (sh_two q1 q2 q3)), (12, .int (sh_left q1)), (11, .int (sh_one q5 q6 q7 q8 (sh_ROUND k) (w k))), (10, .int (sh_right q5)), (0, .ref h), (1, .int q1), (2, .int q2), (3, .int q3), (4, .int q4), (9, .int (nI k))]) hx hb d_Sh_mix_209 hl (by decide) rfl (fun ls hl => ?_)
        refine lv_iload_n hx hb d_Sh_mix_211 rfl (lv_at hl 11 rfl) ?_
        refine lv_istore (lv' := [(4, .int q3), (5, .int (q4 + (sh_one q5 q6 q7 q8 (sh_ROUND k) (w k)))), (6, .int q5), (7, .int q6), (8, .int q7), (13, .int (sh_two q1 q2 q3)), (12, .int (sh_left q1)), (11, .int (sh_one q5 q6 q7 q8 (sh_ROUND k) (w k))), (10, .int (sh_right q5)), (0, .ref h), (1, .int q1), (2, .int q2), (3, .int q3), (9, .int (nI k))]) hx hb d_Sh_mix_212 hl (by decide) rfl (fun ls hl => ?_)
        refine lv_iload_n hx hb d_Sh_mix_214 rfl (lv_at hl 11 rfl) ?_
        refine lv_istore_n (lv' := [(3, .int q2), (4, .int q3), (5, .int (q4 + (sh_one q5 q6 q7 q8 (sh_ROUND k) (w k)))), (6, .int q5), (7, .int q6), (8, .int q7), (13, .int (sh_two q1 q2 q3)), (12, .int (sh_left q1)), (11, .int (sh_one q5 q6 q7 q8 (sh_ROUND k) (w k))), (10, .int (sh_right q5)), (0, .ref h), (1, .int q1), (2, .int q2), (9, .int (nI k))]) hx hb d_Sh_mix_215 rfl hl (by decide) rfl (fun ls hl => ?_)
        refine lv_iload_n hx hb d_Sh_mix_216 rfl (lv_at hl 11 rfl) ?_
        refine lv_istore_n (lv' := [(2, .int q1), (3, .int q2), (4, .int q3), (5, .int (q4 + (sh_one q5 q6 q7 q8 (sh_ROUND k) (w k)))), (6, .int q5), (7, .int q6), (8, .int q7), (13, .int (sh_two q1 q2 q3)), (12, .int (sh_left q1)), (11, .int (sh_one q5 q6 q7 q8 (sh_ROUND k) (w k))), (10, .int (sh_right q5)), (0, .ref h), (1, .int q1), (9, .int (nI k))]) hx hb d_Sh_mix_217 rfl hl (by decide) rfl (fun ls hl => ?_)
        refine lv_iload hx hb d_Sh_mix_218 (lv_at hl 9 rfl) ?_
        refine lv_iload hx hb d_Sh_mix_220 (lv_at hl 7 rfl) ?_
        refine lv_iadd hx hb d_Sh_mix_222 ?_
        refine lv_istore_n (lv' := [(1, .int ((sh_one q5 q6 q7 q8 (sh_ROUND k) (w k)) + (sh_two q1 q2 q3))), (2, .int q1), (3, .int q2), (4, .int q3), (5, .int (q4 + (sh_one q5 q6 q7 q8 (sh_ROUND k) (w k)))), (6, .int q5), (7, .int q6), (8, .int q7), (13, .int (sh_two q1 q2 q3)), (12, .int (sh_left q1)), (11, .int (sh_one q5 q6 q7 q8 (sh_ROUND k) (w k))), (10, .int (sh_right q5)), (0, .ref h), (9, .int (nI k))]) hx hb d_Sh_mix_223 rfl hl (by decide) rfl (fun ls hl => ?_)
        refine lv_iinc (v := nI (k + 1)) (lv' := [(9, .int (nI (k + 1))), (1, .int ((sh_one q5 q6 q7 q8 (sh_ROUND k) (w k)) + (sh_two q1 q2 q3))), (2, .int q1), (3, .int q2), (4, .int q3), (5, .int (q4 + (sh_one q5 q6 q7 q8 (sh_ROUND k) (w k)))), (6, .int q5), (7, .int q6), (8, .int q7), (13, .int (sh_two q1 q2 q3)), (12, .int (sh_left q1)), (11, .int (sh_one q5 q6 q7 q8 (sh_ROUND k) (w k))), (10, .int (sh_right q5)), (0, .ref h)]) hx hb d_Sh_mix_224 hl (k := 13) rfl (by exact nI_1 k) (by decide) rfl (fun ls hl => ?_)
        refine lv_goto (tgt := 66) hx hb d_Sh_mix_227 (by decide) ?_
        exact ih_66 (k + 1) (sh_one q5 q6 q7 q8 (sh_ROUND k) (w k) + sh_two q1 q2 q3) q1 q2 q3 (q4 + sh_one q5 q6 q7 q8 (sh_ROUND k) (w k)) q5 q6 q7 _ _ _ (by omega) (by omega) (by show sh_round _ _ (sh_rounds w k (sh_in f)) = _; rw [hq]; rfl) hP hD hS (lv_sub hl [13, 1, 2, 3, 4, 5, 6, 7, 8, 0] rfl)
  exact loop_66 _ 0 (f 0) (f 1) (f 2) (f 3) (f 4) (f 5) (f 6) (f 7) _ _ _ (Nat.lt_succ_self _) (Nat.zero_le _) (rfl) hP hD hS (lv_sub hl [9, 8, 7, 6, 5, 4, 3, 2, 1, 0] rfl)
set_option maxHeartbeats 4000000 in
set_option maxRecDepth 100000 in
/-- Sha256.put -/
theorem m_Sh_put (l : Launch) (dC : Nat → ClassId) (dI : Nat → Nat → Nat) (cI cB cL cZ cR : ClassId) (h sm wd bl : Nat) (f w b : Nat → Int32) (F : Nat) (tk x : Int32) (sz : Nat) (hF : F < 64) (hxb : vp_nar .byte x = x) : Met l y_Sh_put ws_Sh_put ({ frames := 1, cells := 0, slots := 0, locals := 64 }) (xw_Px dC dI [(cI, .int), (cB, .byte), (cL, .long), (cZ, .boolean), (cR, .object "PatchStore$Repository")] [.ref h, .int x] [(h, .inr (8, [.ref sm, .ref wd, .ref bl, .int (nI F), .int tk])), (sm, .inl (cI, 8, .inl f)), (wd, .inl (cI, 64, .inl w)), (bl, .inl (cB, 64, .inl b))] sz) (va_Qv (fun u : (Nat → Int32) × (Nat → Int32) × (Nat → Int32) × Nat => (F + 1 < 64 ∧ u = (f, w, upd b F x, F + 1)) ∨ (F + 1 = 64 ∧ ∃ w1, u = (sh_comp f (upd b F x), w1, upd b F x, 0))) (fun u t => xw_B dC dI [(cI, .int), (cB, .byte), (cL, .long), (cZ, .boolean), (cR, .object "PatchStore$Repository")] (va_A [(h, .inr (8, [.ref sm, .ref wd, .ref bl, .int (nI F), .int tk])), (sm, .inl (cI, 8, .inl f)), (wd, .inl (cI, 64, .inl w)), (bl, .inl (cB, 64, .inl b))] sz) [(h, .inr (8, [.ref sm, .ref wd, .ref bl, .int (nI u.2.2.2), .int tk])), (sm, .inl (cI, 8, .inl u.1)), (wd, .inl (cI, 64, .inl u.2.1)), (bl, .inl (cB, 64, .inl u.2.2.1))] t) (va_A [(h, .inr (8, [.ref sm, .ref wd, .ref bl, .int (nI F), .int tk])), (sm, .inl (cI, 8, .inl f)), (wd, .inl (cI, 64, .inl w)), (bl, .inl (cB, 64, .inl b))] sz)) 0 0 (va_A [(h, .inr (8, [.ref sm, .ref wd, .ref bl, .int (nI F), .int tk])), (sm, .inl (cI, 8, .inl f)), (wd, .inl (cI, 64, .inl w)), (bl, .inl (cB, 64, .inl b))] sz) := by
  refine Met.ofW (cc := prog_9_method_5_code) (maxL := 2) (ret := none) (by decide) rfl ?_
  intro p e s m args below meth c s₁ B hml hv
  obtain ⟨rfl, hsz, hP, hK, hD0, hN, hTh⟩ := hv
  have hx := B.exec
  have hb := B.bytes
  have hr := B.returns
  have hts0 := atoms_spec (ws := ws_Sh_put) B.pre
  have hts : ∀ w ∈ xg_1, w.before _ s = true := fun w h => hts0 w (List.mem_cons_of_mem _ h)
  have hown : s.vm.findClass "PatchStore$Sha256" = some m.cls := findClass_of_methodNamed B.named
  have hlocks := B.notSynchronized
  subst hsz
  have hD := hD0.self (sz := s.heap.size)
  generalize hAe : va_A [(h, .inr (8, [.ref sm, .ref wd, .ref bl, .int (nI F), .int tk])), (sm, .inl (cI, 8, .inl f)), (wd, .inl (cI, 64, .inl w)), (bl, .inl (cB, 64, .inl b))] s.heap.size = A at hD hTh ⊢
  have hA : ∀ q : Nat, s.heap.size ≤ q → A q := fun q h => by rw [← hAe]; exact Or.inr h
  have hS : va_S A s.heap s.heap [] := va_S.rf
  have hl := lv_entry ([.ref h, .int x]) (n := 2) (Nat.le_of_ble_eq_true rfl)
  rw [lg_entry_eq]
  generalize (lg_sl ([.ref h, .int x]) ++ List.replicate (2 - (lg_sl ([.ref h, .int x])).length) Slot.unset).toArray = ls at hl ⊢
  have hl : lv_has ls 2 [(0, .ref h), (1, .int x)] := hl
  refine lv_aload_n hx hb d_Sh_put_0 rfl (lv_at hl 0 rfl) ?_
  refine va_get (D := (dC, dI)) (ci := 8) (v := .ref bl) (C := R_Sh) (T := F_Sh) (N := 5) hx hb hts i_Sh hown hK hP 0 rfl rfl 2 (by decide) (hts _ gw_56) (fun _ h9 => h9) rfl d_Sh_put_1 ?_
  refine lv_aload_n hx hb d_Sh_put_4 rfl (lv_at hl 0 rfl) ?_
  refine va_get (D := (dC, dI)) (ci := 8) (v := .int (nI F)) (C := R_Sh) (T := F_Sh) (N := 5) hx hb hts i_Sh hown hK hP 0 rfl rfl 3 (by decide) (hts _ gw_57) (fun _ h9 => h9) rfl d_Sh_put_5 ?_
  refine lv_iload_n hx hb d_Sh_put_8 rfl (lv_at hl 1 rfl) ?_
  refine va_bast hx hb hK hP hD hS 3 1 rfl rfl (vp_in_nI (by omega) (by omega)) d_Sh_put_9 (fun H locs hP hD hS => ?_)
  rw [show (nI F).toNatClampNeg = F from nI_clamp (by omega)] at hP hD
  rw [show vp_nar .byte x = x from hxb] at hP hD
  have hP : va_P (dC, dI) classes [(h, .inr (8, [.ref sm, .ref wd, .ref bl, .int (nI F), .int tk])), (sm, .inl (cI, 8, .inl f)), (wd, .inl (cI, 64, .inl w)), (bl, .inl (cB, 64, .inl (upd b F x)))] H := hP
  have hD : va_D A [(h, .inr (8, [.ref sm, .ref wd, .ref bl, .int (nI F), .int tk])), (sm, .inl (cI, 8, .inl f)), (wd, .inl (cI, 64, .inl w)), (bl, .inl (cB, 64, .inl (upd b F x)))] := hD
  refine lv_aload_n hx hb d_Sh_put_10 rfl (lv_at hl 0 rfl) ?_
  refine lv_dup hx hb d_Sh_put_11 rfl ?_
  refine va_get (D := (dC, dI)) (ci := 8) (v := .int (nI F)) (C := R_Sh) (T := F_Sh) (N := 5) hx hb hts i_Sh hown hK hP 0 rfl rfl 3 (by decide) (hts _ gw_57) (fun _ h9 => h9) rfl d_Sh_put_12 ?_
  refine lv_iconst (v := 1) hx hb d_Sh_put_15 (by decide) ?_
  refine lv_iadd hx hb d_Sh_put_16 ?_
  refine lv_topi (fun x_1 ex_1 => ?_)
  obtain rfl : x_1 = nI (F + 1) := by rw [ex_1]; first | done | (exact nI_add F 1)
  refine va_put (D := (dC, dI)) (ci := 8) (v := .int (nI (F + 1))) (ty := .int) (C := R_Sh) (T := F_Sh) (N := 5) hx hb hts i_Sh t_Sh t_Sh_ok n_Sh hown hK hP hD hS 0 rfl rfl 3 (by decide) (hts _ gw_57) (fun _ h9 => h9) rfl (by decide +kernel) rfl rfl (Nat.le_of_ble_eq_true rfl) d_Sh_put_17 (fun H locs hP hD hS => ?_)
  have hP : va_P (dC, dI) classes [(h, .inr (8, [.ref sm, .ref wd, .ref bl, .int (nI (F + 1)), .int tk])), (sm, .inl (cI, 8, .inl f)), (wd, .inl (cI, 64, .inl w)), (bl, .inl (cB, 64, .inl (upd b F x)))] H := hP
  have hD : va_D A [(h, .inr (8, [.ref sm, .ref wd, .ref bl, .int (nI (F + 1)), .int tk])), (sm, .inl (cI, 8, .inl f)), (wd, .inl (cI, 64, .inl w)), (bl, .inl (cB, 64, .inl (upd b F x)))] := hD
  refine lv_aload_n hx hb d_Sh_put_20 rfl (lv_at hl 0 rfl) ?_
  refine va_get (D := (dC, dI)) (ci := 8) (v := .int (nI (F + 1))) (C := R_Sh) (T := F_Sh) (N := 5) hx hb hts i_Sh hown hK hP 0 rfl rfl 3 (by decide) (hts _ gw_57) (fun _ h9 => h9) rfl d_Sh_put_21 ?_
  refine lv_bipush (v := 64) hx hb d_Sh_put_24 (by decide) ?_
  refine lv_icmp_ne (tgt := 42) hx hb d_Sh_put_26 (by decide) (fun c_26 => ?_) (fun c_26 => ?_)
  · have hF2 : F + 1 < 64 := by rcases Nat.lt_or_ge (F + 1) 64 with z | z; exact z; exact absurd (show nI (F + 1) = 64 by rw [show F + 1 = 64 by omega]; rfl) c_26
    have hP9 := hP.sub (ws' := [(h, .inr (8, [.ref sm, .ref wd, .ref bl, .int (nI (F + 1)), .int tk])), (sm, .inl (cI, 8, .inl f)), (wd, .inl (cI, 64, .inl w)), (bl, .inl (cB, 64, .inl (upd b F x)))]) [0, 1, 2, 3] rfl
    have hD9 := hD.sub (ws' := [(h, .inr (8, [.ref sm, .ref wd, .ref bl, .int (nI (F + 1)), .int tk])), (sm, .inl (cI, 8, .inl f)), (wd, .inl (cI, 64, .inl w)), (bl, .inl (cB, 64, .inl (upd b F x)))]) [0, 1, 2, 3] (by decide) rfl
    exact W.vret hx hb hr (fun t ht hW => ⟨⟨(f, w, upd b F x, F + 1), rfl, Or.inl ⟨hF2, rfl⟩, by rw [ht]; exact hP9, va_K.moved hW.alike hK, hD9⟩, hS.F ht⟩) hS.2.2 d_Sh_put_42
  · have hF2 : F + 1 = 64 := (nI_eq (a := F + 1) (b := 64) (by omega) (by omega)).mp c_26
    refine lv_aload_n hx hb d_Sh_put_29 rfl (lv_at hl 0 rfl) ?_
    have hPc := hP.sub (ws' := [(h, .inr (8, [.ref sm, .ref wd, .ref bl, .int (nI (F + 1)), .int tk])), (wd, .inl (cI, 64, .inl w)), (bl, .inl (cB, 64, .inl (upd b F x)))]) [0, 2, 3] rfl
    have hDc := hD.sub (ws' := [(h, .inr (8, [.ref sm, .ref wd, .ref bl, .int (nI (F + 1)), .int tk])), (wd, .inl (cI, 64, .inl w)), (bl, .inl (cB, 64, .inl (upd b F x)))]) [0, 2, 3] (by decide) rfl
    have hFc := va_free (wc := [(h, .inr (8, [.ref sm, .ref wd, .ref bl, .int (nI (F + 1)), .int tk])), (wd, .inl (cI, 64, .inl w)), (bl, .inl (cB, 64, .inl (upd b F x)))]) hD hS hA [0, 2, 3] rfl
    refine va_callv (va_runV (As := []) (rest := []) ⟨hx, hb, hml, hown, hts⟩ (m_Sh_spread l dC dI cI cB cL cZ cR h wd bl (.ref sm) (.int (nI (F + 1))) (.int tk) w (upd b F x) H.size ) (cwV 0 hts (xg_V gw_847 gw_849 (xg_p 17 (q := (⟨"PatchStore$Sha256", "spread", "()V"⟩, 5)) (by decide +kernel)) gw_2 gw_850) rfl rfl rfl (by decide +kernel) ⟨Nat.le_of_ble_eq_true rfl, Nat.le_of_ble_eq_true rfl⟩) ⟨xw_blind, va_recv hK hPc (ci := 8) (q0 := 0) rfl rfl, fun U hU hW => ⟨rfl, by rw [hU], by rw [hU]; exact hPc, va_K.moved hW.alike hK, hDc.weaken (fun _ _ _ _ => trivial)⟩⟩ rfl rfl hl.1 rfl (lv_room (Nat.le_of_ble_eq_true rfl)) d_Sh_put_30 ⟨Nat.le_of_ble_eq_true rfl, Nat.le_of_ble_eq_true rfl⟩) hS (fun q _ h => hFc q h) hFc (fun w1 t H1 locs ht hvm hw hB hz1 hk1 hS => ?_)
    obtain ⟨hP1, hK1, hD1⟩ := hB
    rw [ht] at hP1
    obtain ⟨hP, hD⟩ := va_join (wr := [(sm, .inl (cI, 8, .inl f))]) (w1 := [(h, .inr (8, [.ref sm, .ref wd, .ref bl, .int (nI (F + 1)), .int tk])), (wd, .inl (cI, 64, .inl w1)), (bl, .inl (cB, 64, .inl (upd b F x)))]) hP hD [0, 2, 3] [1] rfl rfl (by decide) (by decide) hk1 hFc hP1 hD1
    generalize H1 = H at hP hS ⊢
    have hP : va_P (dC, dI) classes [(sm, .inl (cI, 8, .inl f)), (h, .inr (8, [.ref sm, .ref wd, .ref bl, .int (nI (F + 1)), .int tk])), (wd, .inl (cI, 64, .inl w1)), (bl, .inl (cB, 64, .inl (upd b F x)))] H := hP
    have hD : va_D A [(sm, .inl (cI, 8, .inl f)), (h, .inr (8, [.ref sm, .ref wd, .ref bl, .int (nI (F + 1)), .int tk])), (wd, .inl (cI, 64, .inl w1)), (bl, .inl (cB, 64, .inl (upd b F x)))] := hD
    refine lv_aload_n hx hb d_Sh_put_33 rfl (lv_at hl 0 rfl) ?_
    have hw0 : ∀ j, j < 64 → w1 j = sh_wf (upd b F x) 64 j := hw
    have hPc := hP.sub (ws' := [(h, .inr (8, [.ref sm, .ref wd, .ref bl, .int (nI (F + 1)), .int tk])), (sm, .inl (cI, 8, .inl f)), (wd, .inl (cI, 64, .inl w1))]) [1, 0, 2] rfl
    have hDc := hD.sub (ws' := [(h, .inr (8, [.ref sm, .ref wd, .ref bl, .int (nI (F + 1)), .int tk])), (sm, .inl (cI, 8, .inl f)), (wd, .inl (cI, 64, .inl w1))]) [1, 0, 2] (by decide) rfl
    have hFc := va_free (wc := [(h, .inr (8, [.ref sm, .ref wd, .ref bl, .int (nI (F + 1)), .int tk])), (sm, .inl (cI, 8, .inl f)), (wd, .inl (cI, 64, .inl w1))]) hD hS hA [1, 0, 2] rfl
    refine va_callv (va_runV (As := []) (rest := []) ⟨hx, hb, hml, hown, hts⟩ (m_Sh_mix l dC dI cI cB cL cZ cR h sm wd (.ref bl) (.int (nI (F + 1))) (.int tk) f w1 H.size ) (cwV 0 hts (xg_V gw_851 gw_853 (xg_p 18 (q := (⟨"PatchStore$Sha256", "mix", "()V"⟩, 5)) (by decide +kernel)) gw_2 gw_854) rfl rfl rfl (by decide +kernel) ⟨Nat.le_of_ble_eq_true rfl, Nat.le_of_ble_eq_true rfl⟩) ⟨xw_blindx, va_recv hK hPc (ci := 8) (q0 := 0) rfl rfl, fun U hU hW => ⟨rfl, by rw [hU], by rw [hU]; exact hPc, va_K.moved hW.alike hK, hDc.weaken (fun _ _ _ _ => trivial), xg_N.warm hW hN, by rw [hU]; exact ((hTh.kept (fun a h1 h2 => hS.2.1 a h1 h2)).narrow hFc).moved hW.alike⟩⟩ rfl rfl hl.1 rfl (lv_room (Nat.le_of_ble_eq_true rfl)) d_Sh_put_34 ⟨Nat.le_of_ble_eq_true rfl, Nat.le_of_ble_eq_true rfl⟩) hS (fun q _ h => hFc q h) hFc (fun u t H1 locs ht hvm hw hB hz1 hk1 hS => ?_)
    rw [sh_rounds_congr 64 hw0] at hB
    obtain ⟨hP1, hK1, hD1⟩ := hB
    rw [ht] at hP1
    obtain ⟨hP, hD⟩ := va_join (wr := [(bl, .inl (cB, 64, .inl (upd b F x)))]) (w1 := [(h, .inr (8, [.ref sm, .ref wd, .ref bl, .int (nI (F + 1)), .int tk])), (sm, .inl (cI, 8, .inl (sh_comp f (upd b F x)))), (wd, .inl (cI, 64, .inl w1))]) hP hD [1, 0, 2] [3] rfl rfl (by decide) (by decide) hk1 hFc hP1 hD1
    generalize H1 = H at hP hS ⊢
    have hP : va_P (dC, dI) classes [(bl, .inl (cB, 64, .inl (upd b F x))), (h, .inr (8, [.ref sm, .ref wd, .ref bl, .int (nI (F + 1)), .int tk])), (sm, .inl (cI, 8, .inl (sh_comp f (upd b F x)))), (wd, .inl (cI, 64, .inl w1))] H := hP
    have hD : va_D A [(bl, .inl (cB, 64, .inl (upd b F x))), (h, .inr (8, [.ref sm, .ref wd, .ref bl, .int (nI (F + 1)), .int tk])), (sm, .inl (cI, 8, .inl (sh_comp f (upd b F x)))), (wd, .inl (cI, 64, .inl w1))] := hD
    refine lv_aload_n hx hb d_Sh_put_37 rfl (lv_at hl 0 rfl) ?_
    refine lv_iconst (v := 0) hx hb d_Sh_put_38 (by decide) ?_
    refine va_put (D := (dC, dI)) (ci := 8) (v := .int 0) (ty := .int) (C := R_Sh) (T := F_Sh) (N := 5) hx hb hts i_Sh t_Sh t_Sh_ok n_Sh hown hK hP hD hS 1 rfl rfl 3 (by decide) (hts _ gw_57) (fun _ h9 => h9) rfl (by decide +kernel) rfl rfl (Nat.le_of_ble_eq_true rfl) d_Sh_put_39 (fun H locs hP hD hS => ?_)
    have hP : va_P (dC, dI) classes [(bl, .inl (cB, 64, .inl (upd b F x))), (h, .inr (8, [.ref sm, .ref wd, .ref bl, .int 0, .int tk])), (sm, .inl (cI, 8, .inl (sh_comp f (upd b F x)))), (wd, .inl (cI, 64, .inl w1))] H := hP
    have hD : va_D A [(bl, .inl (cB, 64, .inl (upd b F x))), (h, .inr (8, [.ref sm, .ref wd, .ref bl, .int 0, .int tk])), (sm, .inl (cI, 8, .inl (sh_comp f (upd b F x)))), (wd, .inl (cI, 64, .inl w1))] := hD
    have hP := hP.sub (ws' := [(h, .inr (8, [.ref sm, .ref wd, .ref bl, .int 0, .int tk])), (sm, .inl (cI, 8, .inl (sh_comp f (upd b F x)))), (wd, .inl (cI, 64, .inl w1)), (bl, .inl (cB, 64, .inl (upd b F x)))]) [1, 2, 3, 0] rfl
    have hD := hD.sub (ws' := [(h, .inr (8, [.ref sm, .ref wd, .ref bl, .int 0, .int tk])), (sm, .inl (cI, 8, .inl (sh_comp f (upd b F x)))), (wd, .inl (cI, 64, .inl w1)), (bl, .inl (cB, 64, .inl (upd b F x)))]) [1, 2, 3, 0] (by decide) rfl
    have hP9 := hP.sub (ws' := [(h, .inr (8, [.ref sm, .ref wd, .ref bl, .int 0, .int tk])), (sm, .inl (cI, 8, .inl (sh_comp f (upd b F x)))), (wd, .inl (cI, 64, .inl w1)), (bl, .inl (cB, 64, .inl (upd b F x)))]) [0, 1, 2, 3] rfl
    have hD9 := hD.sub (ws' := [(h, .inr (8, [.ref sm, .ref wd, .ref bl, .int 0, .int tk])), (sm, .inl (cI, 8, .inl (sh_comp f (upd b F x)))), (wd, .inl (cI, 64, .inl w1)), (bl, .inl (cB, 64, .inl (upd b F x)))]) [0, 1, 2, 3] (by decide) rfl
    exact W.vret hx hb hr (fun t ht hW => ⟨⟨(sh_comp f (upd b F x), w1, upd b F x, 0), rfl, Or.inr ⟨by omega, w1, rfl⟩, by rw [ht]; exact hP9, va_K.moved hW.alike hK, hD9⟩, hS.F ht⟩) hS.2.2 d_Sh_put_42
