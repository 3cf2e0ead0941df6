/-! 99zzzcl.law0.lean.txt -/
/-! THE CLAIM OUT OF ONE WALK OF THE LAW'S BODY -/
def R_law : String := "PatchStoreLaw"
def lw_P (b : Addr) (xs : List Int32) (args : Array Value) (s : State) : Prop := args = #[.ref b] ∧ s.IntsAt b xs ∧ xs.length ≤ 3072 ∧ (Jvm.Cond.and given_1 narrow_1).before args s = true
def lw_Q (_ : Array Value) (s : State) (o : Outcome) (t : State) : Prop := o = .returned (some (.int 1)) ∧ Framed s o t [] 61024 8913034
def lw_Z (below : List Frame) (a : Array Value) (s : State) : State → Prop := fun t => ∃ o, t.status = .running ∧ Ended t below o ∧ lw_Q a s o t
theorem lw_ret {p : Program} {l : Launch} {e : Env} {s : State} {m : MethodId} {below : List Frame} {meth : Method} {c : Code} {b : Nat} (hx : p.tables.exec = Jvm.exec) (hb : c.code = code) (hr : meth.sig.returnType = ret) (hlocks : meth.locks = false) {pc : Nat} {H : Heap} {ls : Array Slot} (hdg : decode code pc = .ok (.ireturn, 1)) : W p l e room_1 s m #[Value.ref b] below meth c H [] 61024 8913034 (lw_Z below #[Value.ref b] s) (F0 m pc ls [.int 1]) := by
  intro T hT X
  obtain ⟨fs, hret, hrun, hended, hW, hframe⟩ := X.leave (v := some (.int 1)) (hlocks := hlocks) (fun h => by rw [hr] at h; cases h)
  have hmeth' : T.vm.method? m = some meth := X.method'
  refine ⟨T.setFrames fs, ?_, .returned (some (.int 1)), hrun, hended, rfl, ⟨_, rfl⟩, hW, hframe⟩
  jvm_step X.here [X.here.top, hx, hb, hdg, hmeth', hr, ret, narrow_b1]
  (try refine ⟨rfl, ?_⟩); (try refine ⟨rfl, ?_⟩)
  first | (intro acts; rw [hret _ acts rfl rfl rfl]) | rw [hret _ _ rfl rfl rfl]
  exact Steps.refl _
def lw_At (p : Program) (s : State) (m : MethodId) (meth : Method) (c : Code) (b L : Nat) (xs : Nat → Int32) : Prop :=
  p.tables.exec = Jvm.exec ∧ c.code = code ∧ meth.sig.returnType = ret ∧ c.maxLocals = 7 ∧ s.vm.findClass R_law = some m.cls ∧ (∀ w ∈ lw_tbl, w.before #[Value.ref b] s = true) ∧ va_X b L xs s s.heap ∧ b < s.heap.size ∧ meth.locks = false ∧ (Jvm.Cond.and given_1 narrow_1).before #[Value.ref b] s = true
theorem lx_short (L : Nat) (h : L < 6) : Int32.ofNat L - 6 < 0 := by
  rcases (show L = 0 ∨ L = 1 ∨ L = 2 ∨ L = 3 ∨ L = 4 ∨ L = 5 by omega) with rfl | rfl | rfl | rfl | rfl | rfl <;> decide
theorem d_Lw_law_0 : decode code 0 = .ok (.new 8, 3) := by decide +kernel
theorem d_Lw_law_3 : decode code 3 = .ok (.dup, 1) := by decide +kernel
theorem d_Lw_law_4 : decode code 4 = .ok (.invokespecial 72, 3) := by decide +kernel
theorem d_Lw_law_7 : decode code 7 = .ok (.astore_n 1, 1) := by decide +kernel
theorem d_Lw_law_8 : decode code 8 = .ok (.new 73, 3) := by decide +kernel
theorem d_Lw_law_11 : decode code 11 = .ok (.dup, 1) := by decide +kernel
theorem d_Lw_law_12 : decode code 12 = .ok (.invokespecial 75, 3) := by decide +kernel
theorem d_Lw_law_15 : decode code 15 = .ok (.astore_n 2, 1) := by decide +kernel
theorem d_Lw_law_16 : decode code 16 = .ok (.iconst 1, 1) := by decide +kernel
theorem d_Lw_law_17 : decode code 17 = .ok (.newarray .long, 2) := by decide +kernel
theorem d_Lw_law_19 : decode code 19 = .ok (.astore_n 3, 1) := by decide +kernel
theorem d_Lw_law_20 : decode code 20 = .ok (.iconst 0, 1) := by decide +kernel
theorem d_Lw_law_21 : decode code 21 = .ok (.istore 4, 2) := by decide +kernel
theorem d_Lw_law_23 : decode code 23 = .ok (.iload 4, 2) := by decide +kernel
theorem d_Lw_law_25 : decode code 25 = .ok (.aload_n 0, 1) := by decide +kernel
theorem d_Lw_law_26 : decode code 26 = .ok (.arraylength, 1) := by decide +kernel
theorem d_Lw_law_27 : decode code 27 = .ok (.bipush 6, 2) := by decide +kernel
theorem d_Lw_law_29 : decode code 29 = .ok (.isub, 1) := by decide +kernel
theorem d_Lw_law_30 : decode code 30 = .ok (.if_icmp .gt 1314, 3) := by decide +kernel
theorem d_Lw_law_33 : decode code 33 = .ok (.aload_n 0, 1) := by decide +kernel
theorem d_Lw_law_34 : decode code 34 = .ok (.iload 4, 2) := by decide +kernel
theorem d_Lw_law_36 : decode code 36 = .ok (.iaload, 1) := by decide +kernel
theorem d_Lw_law_37 : decode code 37 = .ok (.bipush 31, 2) := by decide +kernel
theorem d_Lw_law_39 : decode code 39 = .ok (.iand, 1) := by decide +kernel
theorem d_Lw_law_40 : decode code 40 = .ok (.tableswitch 1298 0 17 #[88, 192, 248, 316, 384, 452, 508, 521, 577, 657, 725, 805, 873, 941, 1009, 1089, 1181, 1273], 88) := by decide +kernel
theorem d_Lw_law_128 : decode code 128 = .ok (.aload_n 1, 1) := by decide +kernel
theorem d_Lw_law_129 : decode code 129 = .ok (.aload_n 0, 1) := by decide +kernel
theorem d_Lw_law_130 : decode code 130 = .ok (.iload 4, 2) := by decide +kernel
theorem d_Lw_law_132 : decode code 132 = .ok (.iconst 1, 1) := by decide +kernel
theorem d_Lw_law_133 : decode code 133 = .ok (.iadd, 1) := by decide +kernel
theorem d_Lw_law_134 : decode code 134 = .ok (.iaload, 1) := by decide +kernel
theorem d_Lw_law_135 : decode code 135 = .ok (.aload_n 0, 1) := by decide +kernel
theorem d_Lw_law_136 : decode code 136 = .ok (.iload 4, 2) := by decide +kernel
theorem d_Lw_law_138 : decode code 138 = .ok (.iconst 2, 1) := by decide +kernel
theorem d_Lw_law_139 : decode code 139 = .ok (.iadd, 1) := by decide +kernel
theorem d_Lw_law_140 : decode code 140 = .ok (.iaload, 1) := by decide +kernel
theorem d_Lw_law_141 : decode code 141 = .ok (.aload_n 0, 1) := by decide +kernel
theorem d_Lw_law_142 : decode code 142 = .ok (.iload 4, 2) := by decide +kernel
theorem d_Lw_law_144 : decode code 144 = .ok (.iconst 3, 1) := by decide +kernel
theorem d_Lw_law_145 : decode code 145 = .ok (.iadd, 1) := by decide +kernel
theorem d_Lw_law_146 : decode code 146 = .ok (.iaload, 1) := by decide +kernel
theorem d_Lw_law_147 : decode code 147 = .ok (.aload_n 0, 1) := by decide +kernel
theorem d_Lw_law_148 : decode code 148 = .ok (.iload 4, 2) := by decide +kernel
theorem d_Lw_law_150 : decode code 150 = .ok (.iconst 4, 1) := by decide +kernel
theorem d_Lw_law_151 : decode code 151 = .ok (.iadd, 1) := by decide +kernel
theorem d_Lw_law_152 : decode code 152 = .ok (.iaload, 1) := by decide +kernel
theorem d_Lw_law_153 : decode code 153 = .ok (.aload_n 0, 1) := by decide +kernel
theorem d_Lw_law_154 : decode code 154 = .ok (.iload 4, 2) := by decide +kernel
theorem d_Lw_law_156 : decode code 156 = .ok (.iconst 5, 1) := by decide +kernel
theorem d_Lw_law_157 : decode code 157 = .ok (.iadd, 1) := by decide +kernel
theorem d_Lw_law_158 : decode code 158 = .ok (.iaload, 1) := by decide +kernel
theorem d_Lw_law_159 : decode code 159 = .ok (.aload_n 3, 1) := by decide +kernel
theorem d_Lw_law_160 : decode code 160 = .ok (.invokestatic 76, 3) := by decide +kernel
theorem d_Lw_law_163 : decode code 163 = .ok (.istore 5, 2) := by decide +kernel
theorem d_Lw_law_165 : decode code 165 = .ok (.aload_n 2, 1) := by decide +kernel
theorem d_Lw_law_166 : decode code 166 = .ok (.aload_n 0, 1) := by decide +kernel
theorem d_Lw_law_167 : decode code 167 = .ok (.iload 4, 2) := by decide +kernel
theorem d_Lw_law_169 : decode code 169 = .ok (.iconst 1, 1) := by decide +kernel
theorem d_Lw_law_170 : decode code 170 = .ok (.iadd, 1) := by decide +kernel
theorem d_Lw_law_171 : decode code 171 = .ok (.iaload, 1) := by decide +kernel
theorem d_Lw_law_172 : decode code 172 = .ok (.aload_n 0, 1) := by decide +kernel
theorem d_Lw_law_173 : decode code 173 = .ok (.iload 4, 2) := by decide +kernel
theorem d_Lw_law_175 : decode code 175 = .ok (.iconst 2, 1) := by decide +kernel
theorem d_Lw_law_176 : decode code 176 = .ok (.iadd, 1) := by decide +kernel
theorem d_Lw_law_177 : decode code 177 = .ok (.iaload, 1) := by decide +kernel
theorem d_Lw_law_178 : decode code 178 = .ok (.aload_n 0, 1) := by decide +kernel
theorem d_Lw_law_179 : decode code 179 = .ok (.iload 4, 2) := by decide +kernel
theorem d_Lw_law_181 : decode code 181 = .ok (.iconst 3, 1) := by decide +kernel
theorem d_Lw_law_182 : decode code 182 = .ok (.iadd, 1) := by decide +kernel
theorem d_Lw_law_183 : decode code 183 = .ok (.iaload, 1) := by decide +kernel
theorem d_Lw_law_184 : decode code 184 = .ok (.aload_n 0, 1) := by decide +kernel
theorem d_Lw_law_185 : decode code 185 = .ok (.iload 4, 2) := by decide +kernel
theorem d_Lw_law_187 : decode code 187 = .ok (.iconst 4, 1) := by decide +kernel
theorem d_Lw_law_188 : decode code 188 = .ok (.iadd, 1) := by decide +kernel
theorem d_Lw_law_189 : decode code 189 = .ok (.iaload, 1) := by decide +kernel
theorem d_Lw_law_190 : decode code 190 = .ok (.aload_n 0, 1) := by decide +kernel
theorem d_Lw_law_191 : decode code 191 = .ok (.iload 4, 2) := by decide +kernel
theorem d_Lw_law_193 : decode code 193 = .ok (.iconst 5, 1) := by decide +kernel
theorem d_Lw_law_194 : decode code 194 = .ok (.iadd, 1) := by decide +kernel
theorem d_Lw_law_195 : decode code 195 = .ok (.iaload, 1) := by decide +kernel
theorem d_Lw_law_196 : decode code 196 = .ok (.invokevirtual 81, 3) := by decide +kernel
theorem d_Lw_law_199 : decode code 199 = .ok (.istore 6, 2) := by decide +kernel
theorem d_Lw_law_201 : decode code 201 = .ok (.aload_n 2, 1) := by decide +kernel
theorem d_Lw_law_202 : decode code 202 = .ok (.invokevirtual 82, 3) := by decide +kernel
theorem d_Lw_law_205 : decode code 205 = .ok (.iload 5, 2) := by decide +kernel
theorem d_Lw_law_207 : decode code 207 = .ok (.if_icmp .eq 5, 3) := by decide +kernel
theorem d_Lw_law_212 : decode code 212 = .ok (.iload 5, 2) := by decide +kernel
theorem d_Lw_law_214 : decode code 214 = .ok (.ifCond .ne 15, 3) := by decide +kernel
theorem d_Lw_law_217 : decode code 217 = .ok (.aload_n 3, 1) := by decide +kernel
theorem d_Lw_law_218 : decode code 218 = .ok (.iconst 0, 1) := by decide +kernel
theorem d_Lw_law_219 : decode code 219 = .ok (.laload, 1) := by decide +kernel
theorem d_Lw_law_220 : decode code 220 = .ok (.iload 6, 2) := by decide +kernel
theorem d_Lw_law_222 : decode code 222 = .ok (.i2l, 1) := by decide +kernel
theorem d_Lw_law_223 : decode code 223 = .ok (.lcmp, 1) := by decide +kernel
theorem d_Lw_law_224 : decode code 224 = .ok (.ifCond .eq 5, 3) := by decide +kernel
theorem d_Lw_law_229 : decode code 229 = .ok (.goto 1109, 3) := by decide +kernel
theorem d_Lw_law_232 : decode code 232 = .ok (.aload_n 1, 1) := by decide +kernel
theorem d_Lw_law_233 : decode code 233 = .ok (.aload_n 0, 1) := by decide +kernel
theorem d_Lw_law_234 : decode code 234 = .ok (.iload 4, 2) := by decide +kernel
theorem d_Lw_law_236 : decode code 236 = .ok (.iconst 1, 1) := by decide +kernel
theorem d_Lw_law_237 : decode code 237 = .ok (.iadd, 1) := by decide +kernel
theorem d_Lw_law_238 : decode code 238 = .ok (.iaload, 1) := by decide +kernel
theorem d_Lw_law_239 : decode code 239 = .ok (.aload_n 3, 1) := by decide +kernel
theorem d_Lw_law_240 : decode code 240 = .ok (.invokestatic 86, 3) := by decide +kernel
theorem d_Lw_law_243 : decode code 243 = .ok (.istore 5, 2) := by decide +kernel
theorem d_Lw_law_245 : decode code 245 = .ok (.aload_n 2, 1) := by decide +kernel
theorem d_Lw_law_246 : decode code 246 = .ok (.aload_n 0, 1) := by decide +kernel
theorem d_Lw_law_247 : decode code 247 = .ok (.iload 4, 2) := by decide +kernel
theorem d_Lw_law_249 : decode code 249 = .ok (.iconst 1, 1) := by decide +kernel
theorem d_Lw_law_250 : decode code 250 = .ok (.iadd, 1) := by decide +kernel
theorem d_Lw_law_251 : decode code 251 = .ok (.iaload, 1) := by decide +kernel
theorem d_Lw_law_252 : decode code 252 = .ok (.invokevirtual 89, 3) := by decide +kernel
theorem d_Lw_law_255 : decode code 255 = .ok (.istore 6, 2) := by decide +kernel
theorem d_Lw_law_257 : decode code 257 = .ok (.aload_n 2, 1) := by decide +kernel
theorem d_Lw_law_258 : decode code 258 = .ok (.invokevirtual 82, 3) := by decide +kernel
theorem d_Lw_law_261 : decode code 261 = .ok (.iload 5, 2) := by decide +kernel
theorem d_Lw_law_263 : decode code 263 = .ok (.if_icmp .eq 5, 3) := by decide +kernel
theorem d_Lw_law_268 : decode code 268 = .ok (.iload 5, 2) := by decide +kernel
theorem d_Lw_law_270 : decode code 270 = .ok (.ifCond .ne 15, 3) := by decide +kernel
theorem d_Lw_law_273 : decode code 273 = .ok (.aload_n 3, 1) := by decide +kernel
theorem d_Lw_law_274 : decode code 274 = .ok (.iconst 0, 1) := by decide +kernel
theorem d_Lw_law_275 : decode code 275 = .ok (.laload, 1) := by decide +kernel
theorem d_Lw_law_276 : decode code 276 = .ok (.iload 6, 2) := by decide +kernel
theorem d_Lw_law_278 : decode code 278 = .ok (.i2l, 1) := by decide +kernel
theorem d_Lw_law_279 : decode code 279 = .ok (.lcmp, 1) := by decide +kernel
theorem d_Lw_law_280 : decode code 280 = .ok (.ifCond .eq 5, 3) := by decide +kernel
theorem d_Lw_law_285 : decode code 285 = .ok (.goto 1053, 3) := by decide +kernel
theorem d_Lw_law_288 : decode code 288 = .ok (.aload_n 1, 1) := by decide +kernel
theorem d_Lw_law_289 : decode code 289 = .ok (.aload_n 0, 1) := by decide +kernel
theorem d_Lw_law_290 : decode code 290 = .ok (.iload 4, 2) := by decide +kernel
theorem d_Lw_law_292 : decode code 292 = .ok (.iconst 1, 1) := by decide +kernel
theorem d_Lw_law_293 : decode code 293 = .ok (.iadd, 1) := by decide +kernel
theorem d_Lw_law_294 : decode code 294 = .ok (.iaload, 1) := by decide +kernel
theorem d_Lw_law_295 : decode code 295 = .ok (.aload_n 0, 1) := by decide +kernel
theorem d_Lw_law_296 : decode code 296 = .ok (.iload 4, 2) := by decide +kernel
theorem d_Lw_law_298 : decode code 298 = .ok (.iconst 2, 1) := by decide +kernel
theorem d_Lw_law_299 : decode code 299 = .ok (.iadd, 1) := by decide +kernel
theorem d_Lw_law_300 : decode code 300 = .ok (.iaload, 1) := by decide +kernel
theorem d_Lw_law_301 : decode code 301 = .ok (.aload_n 3, 1) := by decide +kernel
theorem d_Lw_law_302 : decode code 302 = .ok (.invokestatic 90, 3) := by decide +kernel
theorem d_Lw_law_305 : decode code 305 = .ok (.istore 5, 2) := by decide +kernel
theorem d_Lw_law_307 : decode code 307 = .ok (.aload_n 2, 1) := by decide +kernel
theorem d_Lw_law_308 : decode code 308 = .ok (.aload_n 0, 1) := by decide +kernel
theorem d_Lw_law_309 : decode code 309 = .ok (.iload 4, 2) := by decide +kernel
theorem d_Lw_law_311 : decode code 311 = .ok (.iconst 1, 1) := by decide +kernel
theorem d_Lw_law_312 : decode code 312 = .ok (.iadd, 1) := by decide +kernel
theorem d_Lw_law_313 : decode code 313 = .ok (.iaload, 1) := by decide +kernel
theorem d_Lw_law_314 : decode code 314 = .ok (.aload_n 0, 1) := by decide +kernel
theorem d_Lw_law_315 : decode code 315 = .ok (.iload 4, 2) := by decide +kernel
theorem d_Lw_law_317 : decode code 317 = .ok (.iconst 2, 1) := by decide +kernel
theorem d_Lw_law_318 : decode code 318 = .ok (.iadd, 1) := by decide +kernel
theorem d_Lw_law_319 : decode code 319 = .ok (.iaload, 1) := by decide +kernel
theorem d_Lw_law_320 : decode code 320 = .ok (.invokevirtual 93, 3) := by decide +kernel
theorem d_Lw_law_323 : decode code 323 = .ok (.istore 6, 2) := by decide +kernel
theorem d_Lw_law_325 : decode code 325 = .ok (.aload_n 2, 1) := by decide +kernel
theorem d_Lw_law_326 : decode code 326 = .ok (.invokevirtual 82, 3) := by decide +kernel
theorem d_Lw_law_329 : decode code 329 = .ok (.iload 5, 2) := by decide +kernel
theorem d_Lw_law_331 : decode code 331 = .ok (.if_icmp .eq 5, 3) := by decide +kernel
theorem d_Lw_law_336 : decode code 336 = .ok (.iload 5, 2) := by decide +kernel
theorem d_Lw_law_338 : decode code 338 = .ok (.ifCond .ne 15, 3) := by decide +kernel
theorem d_Lw_law_341 : decode code 341 = .ok (.aload_n 3, 1) := by decide +kernel
theorem d_Lw_law_342 : decode code 342 = .ok (.iconst 0, 1) := by decide +kernel
theorem d_Lw_law_343 : decode code 343 = .ok (.laload, 1) := by decide +kernel
theorem d_Lw_law_344 : decode code 344 = .ok (.iload 6, 2) := by decide +kernel
theorem d_Lw_law_346 : decode code 346 = .ok (.i2l, 1) := by decide +kernel
theorem d_Lw_law_347 : decode code 347 = .ok (.lcmp, 1) := by decide +kernel
theorem d_Lw_law_348 : decode code 348 = .ok (.ifCond .eq 5, 3) := by decide +kernel
theorem d_Lw_law_353 : decode code 353 = .ok (.goto 985, 3) := by decide +kernel
theorem d_Lw_law_356 : decode code 356 = .ok (.aload_n 1, 1) := by decide +kernel
theorem d_Lw_law_357 : decode code 357 = .ok (.aload_n 0, 1) := by decide +kernel
theorem d_Lw_law_358 : decode code 358 = .ok (.iload 4, 2) := by decide +kernel
theorem d_Lw_law_360 : decode code 360 = .ok (.iconst 1, 1) := by decide +kernel
theorem d_Lw_law_361 : decode code 361 = .ok (.iadd, 1) := by decide +kernel
theorem d_Lw_law_362 : decode code 362 = .ok (.iaload, 1) := by decide +kernel
theorem d_Lw_law_363 : decode code 363 = .ok (.aload_n 0, 1) := by decide +kernel
theorem d_Lw_law_364 : decode code 364 = .ok (.iload 4, 2) := by decide +kernel
theorem d_Lw_law_366 : decode code 366 = .ok (.iconst 2, 1) := by decide +kernel
theorem d_Lw_law_367 : decode code 367 = .ok (.iadd, 1) := by decide +kernel
theorem d_Lw_law_368 : decode code 368 = .ok (.iaload, 1) := by decide +kernel
theorem d_Lw_law_369 : decode code 369 = .ok (.aload_n 3, 1) := by decide +kernel
theorem d_Lw_law_370 : decode code 370 = .ok (.invokestatic 94, 3) := by decide +kernel
theorem d_Lw_law_373 : decode code 373 = .ok (.istore 5, 2) := by decide +kernel
theorem d_Lw_law_375 : decode code 375 = .ok (.aload_n 2, 1) := by decide +kernel
theorem d_Lw_law_376 : decode code 376 = .ok (.aload_n 0, 1) := by decide +kernel
theorem d_Lw_law_377 : decode code 377 = .ok (.iload 4, 2) := by decide +kernel
theorem d_Lw_law_379 : decode code 379 = .ok (.iconst 1, 1) := by decide +kernel
theorem d_Lw_law_380 : decode code 380 = .ok (.iadd, 1) := by decide +kernel
theorem d_Lw_law_381 : decode code 381 = .ok (.iaload, 1) := by decide +kernel
theorem d_Lw_law_382 : decode code 382 = .ok (.aload_n 0, 1) := by decide +kernel
theorem d_Lw_law_383 : decode code 383 = .ok (.iload 4, 2) := by decide +kernel
theorem d_Lw_law_385 : decode code 385 = .ok (.iconst 2, 1) := by decide +kernel
theorem d_Lw_law_386 : decode code 386 = .ok (.iadd, 1) := by decide +kernel
theorem d_Lw_law_387 : decode code 387 = .ok (.iaload, 1) := by decide +kernel
theorem d_Lw_law_388 : decode code 388 = .ok (.invokevirtual 96, 3) := by decide +kernel
theorem d_Lw_law_391 : decode code 391 = .ok (.istore 6, 2) := by decide +kernel
theorem d_Lw_law_393 : decode code 393 = .ok (.aload_n 2, 1) := by decide +kernel
theorem d_Lw_law_394 : decode code 394 = .ok (.invokevirtual 82, 3) := by decide +kernel
theorem d_Lw_law_397 : decode code 397 = .ok (.iload 5, 2) := by decide +kernel
theorem d_Lw_law_399 : decode code 399 = .ok (.if_icmp .eq 5, 3) := by decide +kernel
theorem d_Lw_law_404 : decode code 404 = .ok (.iload 5, 2) := by decide +kernel
theorem d_Lw_law_406 : decode code 406 = .ok (.ifCond .ne 15, 3) := by decide +kernel
theorem d_Lw_law_409 : decode code 409 = .ok (.aload_n 3, 1) := by decide +kernel
theorem d_Lw_law_410 : decode code 410 = .ok (.iconst 0, 1) := by decide +kernel
theorem d_Lw_law_411 : decode code 411 = .ok (.laload, 1) := by decide +kernel
theorem d_Lw_law_412 : decode code 412 = .ok (.iload 6, 2) := by decide +kernel
theorem d_Lw_law_414 : decode code 414 = .ok (.i2l, 1) := by decide +kernel
theorem d_Lw_law_415 : decode code 415 = .ok (.lcmp, 1) := by decide +kernel
theorem d_Lw_law_416 : decode code 416 = .ok (.ifCond .eq 5, 3) := by decide +kernel
theorem d_Lw_law_421 : decode code 421 = .ok (.goto 917, 3) := by decide +kernel
theorem d_Lw_law_424 : decode code 424 = .ok (.aload_n 1, 1) := by decide +kernel
theorem d_Lw_law_425 : decode code 425 = .ok (.aload_n 0, 1) := by decide +kernel
theorem d_Lw_law_426 : decode code 426 = .ok (.iload 4, 2) := by decide +kernel
theorem d_Lw_law_428 : decode code 428 = .ok (.iconst 1, 1) := by decide +kernel
theorem d_Lw_law_429 : decode code 429 = .ok (.iadd, 1) := by decide +kernel
theorem d_Lw_law_430 : decode code 430 = .ok (.iaload, 1) := by decide +kernel
theorem d_Lw_law_431 : decode code 431 = .ok (.aload_n 0, 1) := by decide +kernel
theorem d_Lw_law_432 : decode code 432 = .ok (.iload 4, 2) := by decide +kernel
theorem d_Lw_law_434 : decode code 434 = .ok (.iconst 2, 1) := by decide +kernel
theorem d_Lw_law_435 : decode code 435 = .ok (.iadd, 1) := by decide +kernel
theorem d_Lw_law_436 : decode code 436 = .ok (.iaload, 1) := by decide +kernel
theorem d_Lw_law_437 : decode code 437 = .ok (.aload_n 3, 1) := by decide +kernel
theorem d_Lw_law_438 : decode code 438 = .ok (.invokestatic 97, 3) := by decide +kernel
theorem d_Lw_law_441 : decode code 441 = .ok (.istore 5, 2) := by decide +kernel
theorem d_Lw_law_443 : decode code 443 = .ok (.aload_n 2, 1) := by decide +kernel
theorem d_Lw_law_444 : decode code 444 = .ok (.aload_n 0, 1) := by decide +kernel
theorem d_Lw_law_445 : decode code 445 = .ok (.iload 4, 2) := by decide +kernel
theorem d_Lw_law_447 : decode code 447 = .ok (.iconst 1, 1) := by decide +kernel
theorem d_Lw_law_448 : decode code 448 = .ok (.iadd, 1) := by decide +kernel
theorem d_Lw_law_449 : decode code 449 = .ok (.iaload, 1) := by decide +kernel
theorem d_Lw_law_450 : decode code 450 = .ok (.aload_n 0, 1) := by decide +kernel
theorem d_Lw_law_451 : decode code 451 = .ok (.iload 4, 2) := by decide +kernel
theorem d_Lw_law_453 : decode code 453 = .ok (.iconst 2, 1) := by decide +kernel
theorem d_Lw_law_454 : decode code 454 = .ok (.iadd, 1) := by decide +kernel
theorem d_Lw_law_455 : decode code 455 = .ok (.iaload, 1) := by decide +kernel
theorem d_Lw_law_456 : decode code 456 = .ok (.invokevirtual 99, 3) := by decide +kernel
theorem d_Lw_law_459 : decode code 459 = .ok (.istore 6, 2) := by decide +kernel
theorem d_Lw_law_461 : decode code 461 = .ok (.aload_n 2, 1) := by decide +kernel
theorem d_Lw_law_462 : decode code 462 = .ok (.invokevirtual 82, 3) := by decide +kernel
theorem d_Lw_law_465 : decode code 465 = .ok (.iload 5, 2) := by decide +kernel
theorem d_Lw_law_467 : decode code 467 = .ok (.if_icmp .eq 5, 3) := by decide +kernel
theorem d_Lw_law_472 : decode code 472 = .ok (.iload 5, 2) := by decide +kernel
theorem d_Lw_law_474 : decode code 474 = .ok (.ifCond .ne 15, 3) := by decide +kernel
theorem d_Lw_law_477 : decode code 477 = .ok (.aload_n 3, 1) := by decide +kernel
theorem d_Lw_law_478 : decode code 478 = .ok (.iconst 0, 1) := by decide +kernel
theorem d_Lw_law_479 : decode code 479 = .ok (.laload, 1) := by decide +kernel
theorem d_Lw_law_480 : decode code 480 = .ok (.iload 6, 2) := by decide +kernel
theorem d_Lw_law_482 : decode code 482 = .ok (.i2l, 1) := by decide +kernel
theorem d_Lw_law_483 : decode code 483 = .ok (.lcmp, 1) := by decide +kernel
theorem d_Lw_law_484 : decode code 484 = .ok (.ifCond .eq 5, 3) := by decide +kernel
theorem d_Lw_law_489 : decode code 489 = .ok (.goto 849, 3) := by decide +kernel
theorem d_Lw_law_492 : decode code 492 = .ok (.aload_n 1, 1) := by decide +kernel
theorem d_Lw_law_493 : decode code 493 = .ok (.aload_n 0, 1) := by decide +kernel
theorem d_Lw_law_494 : decode code 494 = .ok (.iload 4, 2) := by decide +kernel
theorem d_Lw_law_496 : decode code 496 = .ok (.iconst 1, 1) := by decide +kernel
theorem d_Lw_law_497 : decode code 497 = .ok (.iadd, 1) := by decide +kernel
theorem d_Lw_law_498 : decode code 498 = .ok (.iaload, 1) := by decide +kernel
theorem d_Lw_law_499 : decode code 499 = .ok (.aload_n 3, 1) := by decide +kernel
theorem d_Lw_law_500 : decode code 500 = .ok (.invokestatic 100, 3) := by decide +kernel
theorem d_Lw_law_503 : decode code 503 = .ok (.istore 5, 2) := by decide +kernel
theorem d_Lw_law_505 : decode code 505 = .ok (.aload_n 2, 1) := by decide +kernel
theorem d_Lw_law_506 : decode code 506 = .ok (.aload_n 0, 1) := by decide +kernel
theorem d_Lw_law_507 : decode code 507 = .ok (.iload 4, 2) := by decide +kernel
theorem d_Lw_law_509 : decode code 509 = .ok (.iconst 1, 1) := by decide +kernel
theorem d_Lw_law_510 : decode code 510 = .ok (.iadd, 1) := by decide +kernel
theorem d_Lw_law_511 : decode code 511 = .ok (.iaload, 1) := by decide +kernel
theorem d_Lw_law_512 : decode code 512 = .ok (.invokevirtual 102, 3) := by decide +kernel
theorem d_Lw_law_515 : decode code 515 = .ok (.istore 6, 2) := by decide +kernel
theorem d_Lw_law_517 : decode code 517 = .ok (.aload_n 2, 1) := by decide +kernel
theorem d_Lw_law_518 : decode code 518 = .ok (.invokevirtual 82, 3) := by decide +kernel
theorem d_Lw_law_521 : decode code 521 = .ok (.iload 5, 2) := by decide +kernel
theorem d_Lw_law_523 : decode code 523 = .ok (.if_icmp .eq 5, 3) := by decide +kernel
theorem d_Lw_law_528 : decode code 528 = .ok (.iload 5, 2) := by decide +kernel
theorem d_Lw_law_530 : decode code 530 = .ok (.ifCond .ne 15, 3) := by decide +kernel
theorem d_Lw_law_533 : decode code 533 = .ok (.aload_n 3, 1) := by decide +kernel
theorem d_Lw_law_534 : decode code 534 = .ok (.iconst 0, 1) := by decide +kernel
theorem d_Lw_law_535 : decode code 535 = .ok (.laload, 1) := by decide +kernel
theorem d_Lw_law_536 : decode code 536 = .ok (.iload 6, 2) := by decide +kernel
theorem d_Lw_law_538 : decode code 538 = .ok (.i2l, 1) := by decide +kernel
theorem d_Lw_law_539 : decode code 539 = .ok (.lcmp, 1) := by decide +kernel
theorem d_Lw_law_540 : decode code 540 = .ok (.ifCond .eq 5, 3) := by decide +kernel
theorem d_Lw_law_545 : decode code 545 = .ok (.goto 793, 3) := by decide +kernel
theorem d_Lw_law_548 : decode code 548 = .ok (.aload_n 1, 1) := by decide +kernel
theorem d_Lw_law_549 : decode code 549 = .ok (.invokevirtual 103, 3) := by decide +kernel
theorem d_Lw_law_552 : decode code 552 = .ok (.aload_n 2, 1) := by decide +kernel
theorem d_Lw_law_553 : decode code 553 = .ok (.invokevirtual 106, 3) := by decide +kernel
theorem d_Lw_law_556 : decode code 556 = .ok (.if_icmp .eq 782, 3) := by decide +kernel
theorem d_Lw_law_561 : decode code 561 = .ok (.aload_n 1, 1) := by decide +kernel
theorem d_Lw_law_562 : decode code 562 = .ok (.aload_n 0, 1) := by decide +kernel
theorem d_Lw_law_563 : decode code 563 = .ok (.iload 4, 2) := by decide +kernel
theorem d_Lw_law_565 : decode code 565 = .ok (.iconst 1, 1) := by decide +kernel
theorem d_Lw_law_566 : decode code 566 = .ok (.iadd, 1) := by decide +kernel
theorem d_Lw_law_567 : decode code 567 = .ok (.iaload, 1) := by decide +kernel
theorem d_Lw_law_568 : decode code 568 = .ok (.aload_n 3, 1) := by decide +kernel
theorem d_Lw_law_569 : decode code 569 = .ok (.invokestatic 107, 3) := by decide +kernel
theorem d_Lw_law_572 : decode code 572 = .ok (.istore 5, 2) := by decide +kernel
theorem d_Lw_law_574 : decode code 574 = .ok (.aload_n 2, 1) := by decide +kernel
theorem d_Lw_law_575 : decode code 575 = .ok (.aload_n 0, 1) := by decide +kernel
theorem d_Lw_law_576 : decode code 576 = .ok (.iload 4, 2) := by decide +kernel
theorem d_Lw_law_578 : decode code 578 = .ok (.iconst 1, 1) := by decide +kernel
theorem d_Lw_law_579 : decode code 579 = .ok (.iadd, 1) := by decide +kernel
theorem d_Lw_law_580 : decode code 580 = .ok (.iaload, 1) := by decide +kernel
theorem d_Lw_law_581 : decode code 581 = .ok (.invokevirtual 109, 3) := by decide +kernel
theorem d_Lw_law_584 : decode code 584 = .ok (.istore 6, 2) := by decide +kernel
theorem d_Lw_law_586 : decode code 586 = .ok (.aload_n 2, 1) := by decide +kernel
theorem d_Lw_law_587 : decode code 587 = .ok (.invokevirtual 82, 3) := by decide +kernel
theorem d_Lw_law_590 : decode code 590 = .ok (.iload 5, 2) := by decide +kernel
theorem d_Lw_law_592 : decode code 592 = .ok (.if_icmp .eq 5, 3) := by decide +kernel
theorem d_Lw_law_597 : decode code 597 = .ok (.iload 5, 2) := by decide +kernel
theorem d_Lw_law_599 : decode code 599 = .ok (.ifCond .ne 15, 3) := by decide +kernel
theorem d_Lw_law_602 : decode code 602 = .ok (.aload_n 3, 1) := by decide +kernel
theorem d_Lw_law_603 : decode code 603 = .ok (.iconst 0, 1) := by decide +kernel
theorem d_Lw_law_604 : decode code 604 = .ok (.laload, 1) := by decide +kernel
theorem d_Lw_law_605 : decode code 605 = .ok (.iload 6, 2) := by decide +kernel
theorem d_Lw_law_607 : decode code 607 = .ok (.i2l, 1) := by decide +kernel
theorem d_Lw_law_608 : decode code 608 = .ok (.lcmp, 1) := by decide +kernel
theorem d_Lw_law_609 : decode code 609 = .ok (.ifCond .eq 5, 3) := by decide +kernel
theorem d_Lw_law_614 : decode code 614 = .ok (.goto 724, 3) := by decide +kernel
theorem d_Lw_law_617 : decode code 617 = .ok (.aload_n 1, 1) := by decide +kernel
theorem d_Lw_law_618 : decode code 618 = .ok (.aload_n 0, 1) := by decide +kernel
theorem d_Lw_law_619 : decode code 619 = .ok (.iload 4, 2) := by decide +kernel
theorem d_Lw_law_621 : decode code 621 = .ok (.iconst 1, 1) := by decide +kernel
theorem d_Lw_law_622 : decode code 622 = .ok (.iadd, 1) := by decide +kernel
theorem d_Lw_law_623 : decode code 623 = .ok (.iaload, 1) := by decide +kernel
theorem d_Lw_law_624 : decode code 624 = .ok (.aload_n 0, 1) := by decide +kernel
theorem d_Lw_law_625 : decode code 625 = .ok (.iload 4, 2) := by decide +kernel
theorem d_Lw_law_627 : decode code 627 = .ok (.iconst 2, 1) := by decide +kernel
theorem d_Lw_law_628 : decode code 628 = .ok (.iadd, 1) := by decide +kernel
theorem d_Lw_law_629 : decode code 629 = .ok (.iaload, 1) := by decide +kernel
theorem d_Lw_law_630 : decode code 630 = .ok (.aload_n 0, 1) := by decide +kernel
theorem d_Lw_law_631 : decode code 631 = .ok (.iload 4, 2) := by decide +kernel
theorem d_Lw_law_633 : decode code 633 = .ok (.iconst 3, 1) := by decide +kernel
theorem d_Lw_law_634 : decode code 634 = .ok (.iadd, 1) := by decide +kernel
theorem d_Lw_law_635 : decode code 635 = .ok (.iaload, 1) := by decide +kernel
theorem d_Lw_law_636 : decode code 636 = .ok (.aload_n 3, 1) := by decide +kernel
theorem d_Lw_law_637 : decode code 637 = .ok (.invokestatic 110, 3) := by decide +kernel
theorem d_Lw_law_640 : decode code 640 = .ok (.istore 5, 2) := by decide +kernel
theorem d_Lw_law_642 : decode code 642 = .ok (.aload_n 2, 1) := by decide +kernel
theorem d_Lw_law_643 : decode code 643 = .ok (.aload_n 0, 1) := by decide +kernel
theorem d_Lw_law_644 : decode code 644 = .ok (.iload 4, 2) := by decide +kernel
theorem d_Lw_law_646 : decode code 646 = .ok (.iconst 1, 1) := by decide +kernel
theorem d_Lw_law_647 : decode code 647 = .ok (.iadd, 1) := by decide +kernel
theorem d_Lw_law_648 : decode code 648 = .ok (.iaload, 1) := by decide +kernel
theorem d_Lw_law_649 : decode code 649 = .ok (.aload_n 0, 1) := by decide +kernel
theorem d_Lw_law_650 : decode code 650 = .ok (.iload 4, 2) := by decide +kernel
theorem d_Lw_law_652 : decode code 652 = .ok (.iconst 2, 1) := by decide +kernel
theorem d_Lw_law_653 : decode code 653 = .ok (.iadd, 1) := by decide +kernel
theorem d_Lw_law_654 : decode code 654 = .ok (.iaload, 1) := by decide +kernel
theorem d_Lw_law_655 : decode code 655 = .ok (.aload_n 0, 1) := by decide +kernel
theorem d_Lw_law_656 : decode code 656 = .ok (.iload 4, 2) := by decide +kernel
theorem d_Lw_law_658 : decode code 658 = .ok (.iconst 3, 1) := by decide +kernel
theorem d_Lw_law_659 : decode code 659 = .ok (.iadd, 1) := by decide +kernel
theorem d_Lw_law_660 : decode code 660 = .ok (.iaload, 1) := by decide +kernel
theorem d_Lw_law_661 : decode code 661 = .ok (.invokevirtual 113, 3) := by decide +kernel
theorem d_Lw_law_664 : decode code 664 = .ok (.istore 6, 2) := by decide +kernel
theorem d_Lw_law_666 : decode code 666 = .ok (.aload_n 2, 1) := by decide +kernel
theorem d_Lw_law_667 : decode code 667 = .ok (.invokevirtual 82, 3) := by decide +kernel
theorem d_Lw_law_670 : decode code 670 = .ok (.iload 5, 2) := by decide +kernel
theorem d_Lw_law_672 : decode code 672 = .ok (.if_icmp .eq 5, 3) := by decide +kernel
theorem d_Lw_law_677 : decode code 677 = .ok (.iload 5, 2) := by decide +kernel
theorem d_Lw_law_679 : decode code 679 = .ok (.ifCond .ne 15, 3) := by decide +kernel
theorem d_Lw_law_682 : decode code 682 = .ok (.aload_n 3, 1) := by decide +kernel
theorem d_Lw_law_683 : decode code 683 = .ok (.iconst 0, 1) := by decide +kernel
theorem d_Lw_law_684 : decode code 684 = .ok (.laload, 1) := by decide +kernel
theorem d_Lw_law_685 : decode code 685 = .ok (.iload 6, 2) := by decide +kernel
theorem d_Lw_law_687 : decode code 687 = .ok (.i2l, 1) := by decide +kernel
theorem d_Lw_law_688 : decode code 688 = .ok (.lcmp, 1) := by decide +kernel
theorem d_Lw_law_689 : decode code 689 = .ok (.ifCond .eq 5, 3) := by decide +kernel
theorem d_Lw_law_694 : decode code 694 = .ok (.goto 644, 3) := by decide +kernel
theorem d_Lw_law_697 : decode code 697 = .ok (.aload_n 1, 1) := by decide +kernel
theorem d_Lw_law_698 : decode code 698 = .ok (.aload_n 0, 1) := by decide +kernel
theorem d_Lw_law_699 : decode code 699 = .ok (.iload 4, 2) := by decide +kernel
theorem d_Lw_law_701 : decode code 701 = .ok (.iconst 1, 1) := by decide +kernel
theorem d_Lw_law_702 : decode code 702 = .ok (.iadd, 1) := by decide +kernel
theorem d_Lw_law_703 : decode code 703 = .ok (.iaload, 1) := by decide +kernel
theorem d_Lw_law_704 : decode code 704 = .ok (.aload_n 0, 1) := by decide +kernel
theorem d_Lw_law_705 : decode code 705 = .ok (.iload 4, 2) := by decide +kernel
theorem d_Lw_law_707 : decode code 707 = .ok (.iconst 2, 1) := by decide +kernel
theorem d_Lw_law_708 : decode code 708 = .ok (.iadd, 1) := by decide +kernel
theorem d_Lw_law_709 : decode code 709 = .ok (.iaload, 1) := by decide +kernel
theorem d_Lw_law_710 : decode code 710 = .ok (.aload_n 3, 1) := by decide +kernel
theorem d_Lw_law_711 : decode code 711 = .ok (.invokestatic 114, 3) := by decide +kernel
theorem d_Lw_law_714 : decode code 714 = .ok (.istore 5, 2) := by decide +kernel
theorem d_Lw_law_716 : decode code 716 = .ok (.aload_n 2, 1) := by decide +kernel
theorem d_Lw_law_717 : decode code 717 = .ok (.aload_n 0, 1) := by decide +kernel
theorem d_Lw_law_718 : decode code 718 = .ok (.iload 4, 2) := by decide +kernel
theorem d_Lw_law_720 : decode code 720 = .ok (.iconst 1, 1) := by decide +kernel
theorem d_Lw_law_721 : decode code 721 = .ok (.iadd, 1) := by decide +kernel
theorem d_Lw_law_722 : decode code 722 = .ok (.iaload, 1) := by decide +kernel
theorem d_Lw_law_723 : decode code 723 = .ok (.aload_n 0, 1) := by decide +kernel
theorem d_Lw_law_724 : decode code 724 = .ok (.iload 4, 2) := by decide +kernel
theorem d_Lw_law_726 : decode code 726 = .ok (.iconst 2, 1) := by decide +kernel
theorem d_Lw_law_727 : decode code 727 = .ok (.iadd, 1) := by decide +kernel
theorem d_Lw_law_728 : decode code 728 = .ok (.iaload, 1) := by decide +kernel
theorem d_Lw_law_729 : decode code 729 = .ok (.invokevirtual 116, 3) := by decide +kernel
theorem d_Lw_law_732 : decode code 732 = .ok (.istore 6, 2) := by decide +kernel
theorem d_Lw_law_734 : decode code 734 = .ok (.aload_n 2, 1) := by decide +kernel
theorem d_Lw_law_735 : decode code 735 = .ok (.invokevirtual 82, 3) := by decide +kernel
theorem d_Lw_law_738 : decode code 738 = .ok (.iload 5, 2) := by decide +kernel
theorem d_Lw_law_740 : decode code 740 = .ok (.if_icmp .eq 5, 3) := by decide +kernel
theorem d_Lw_law_745 : decode code 745 = .ok (.iload 5, 2) := by decide +kernel
theorem d_Lw_law_747 : decode code 747 = .ok (.ifCond .ne 15, 3) := by decide +kernel
theorem d_Lw_law_750 : decode code 750 = .ok (.aload_n 3, 1) := by decide +kernel
theorem d_Lw_law_751 : decode code 751 = .ok (.iconst 0, 1) := by decide +kernel
theorem d_Lw_law_752 : decode code 752 = .ok (.laload, 1) := by decide +kernel
theorem d_Lw_law_753 : decode code 753 = .ok (.iload 6, 2) := by decide +kernel
theorem d_Lw_law_755 : decode code 755 = .ok (.i2l, 1) := by decide +kernel
theorem d_Lw_law_756 : decode code 756 = .ok (.lcmp, 1) := by decide +kernel
theorem d_Lw_law_757 : decode code 757 = .ok (.ifCond .eq 5, 3) := by decide +kernel
theorem d_Lw_law_762 : decode code 762 = .ok (.goto 576, 3) := by decide +kernel
theorem d_Lw_law_765 : decode code 765 = .ok (.aload_n 1, 1) := by decide +kernel
theorem d_Lw_law_766 : decode code 766 = .ok (.aload_n 0, 1) := by decide +kernel
theorem d_Lw_law_767 : decode code 767 = .ok (.iload 4, 2) := by decide +kernel
theorem d_Lw_law_769 : decode code 769 = .ok (.iconst 1, 1) := by decide +kernel
theorem d_Lw_law_770 : decode code 770 = .ok (.iadd, 1) := by decide +kernel
theorem d_Lw_law_771 : decode code 771 = .ok (.iaload, 1) := by decide +kernel
theorem d_Lw_law_772 : decode code 772 = .ok (.aload_n 0, 1) := by decide +kernel
theorem d_Lw_law_773 : decode code 773 = .ok (.iload 4, 2) := by decide +kernel
theorem d_Lw_law_775 : decode code 775 = .ok (.iconst 2, 1) := by decide +kernel
theorem d_Lw_law_776 : decode code 776 = .ok (.iadd, 1) := by decide +kernel
theorem d_Lw_law_777 : decode code 777 = .ok (.iaload, 1) := by decide +kernel
theorem d_Lw_law_778 : decode code 778 = .ok (.aload_n 0, 1) := by decide +kernel
theorem d_Lw_law_779 : decode code 779 = .ok (.iload 4, 2) := by decide +kernel
theorem d_Lw_law_781 : decode code 781 = .ok (.iconst 3, 1) := by decide +kernel
theorem d_Lw_law_782 : decode code 782 = .ok (.iadd, 1) := by decide +kernel
theorem d_Lw_law_783 : decode code 783 = .ok (.iaload, 1) := by decide +kernel
theorem d_Lw_law_784 : decode code 784 = .ok (.aload_n 3, 1) := by decide +kernel
theorem d_Lw_law_785 : decode code 785 = .ok (.invokestatic 117, 3) := by decide +kernel
theorem d_Lw_law_788 : decode code 788 = .ok (.istore 5, 2) := by decide +kernel
theorem d_Lw_law_790 : decode code 790 = .ok (.aload_n 2, 1) := by decide +kernel
theorem d_Lw_law_791 : decode code 791 = .ok (.aload_n 0, 1) := by decide +kernel
theorem d_Lw_law_792 : decode code 792 = .ok (.iload 4, 2) := by decide +kernel
theorem d_Lw_law_794 : decode code 794 = .ok (.iconst 1, 1) := by decide +kernel
theorem d_Lw_law_795 : decode code 795 = .ok (.iadd, 1) := by decide +kernel
theorem d_Lw_law_796 : decode code 796 = .ok (.iaload, 1) := by decide +kernel
theorem d_Lw_law_797 : decode code 797 = .ok (.aload_n 0, 1) := by decide +kernel
theorem d_Lw_law_798 : decode code 798 = .ok (.iload 4, 2) := by decide +kernel
theorem d_Lw_law_800 : decode code 800 = .ok (.iconst 2, 1) := by decide +kernel
theorem d_Lw_law_801 : decode code 801 = .ok (.iadd, 1) := by decide +kernel
theorem d_Lw_law_802 : decode code 802 = .ok (.iaload, 1) := by decide +kernel
theorem d_Lw_law_803 : decode code 803 = .ok (.aload_n 0, 1) := by decide +kernel
theorem d_Lw_law_804 : decode code 804 = .ok (.iload 4, 2) := by decide +kernel
theorem d_Lw_law_806 : decode code 806 = .ok (.iconst 3, 1) := by decide +kernel
theorem d_Lw_law_807 : decode code 807 = .ok (.iadd, 1) := by decide +kernel
theorem d_Lw_law_808 : decode code 808 = .ok (.iaload, 1) := by decide +kernel
theorem d_Lw_law_809 : decode code 809 = .ok (.invokevirtual 119, 3) := by decide +kernel
theorem d_Lw_law_812 : decode code 812 = .ok (.istore 6, 2) := by decide +kernel
theorem d_Lw_law_814 : decode code 814 = .ok (.aload_n 2, 1) := by decide +kernel
theorem d_Lw_law_815 : decode code 815 = .ok (.invokevirtual 82, 3) := by decide +kernel
theorem d_Lw_law_818 : decode code 818 = .ok (.iload 5, 2) := by decide +kernel
theorem d_Lw_law_820 : decode code 820 = .ok (.if_icmp .eq 5, 3) := by decide +kernel
theorem d_Lw_law_825 : decode code 825 = .ok (.iload 5, 2) := by decide +kernel
theorem d_Lw_law_827 : decode code 827 = .ok (.ifCond .ne 15, 3) := by decide +kernel
theorem d_Lw_law_830 : decode code 830 = .ok (.aload_n 3, 1) := by decide +kernel
theorem d_Lw_law_831 : decode code 831 = .ok (.iconst 0, 1) := by decide +kernel
theorem d_Lw_law_832 : decode code 832 = .ok (.laload, 1) := by decide +kernel
theorem d_Lw_law_833 : decode code 833 = .ok (.iload 6, 2) := by decide +kernel
theorem d_Lw_law_835 : decode code 835 = .ok (.i2l, 1) := by decide +kernel
theorem d_Lw_law_836 : decode code 836 = .ok (.lcmp, 1) := by decide +kernel
theorem d_Lw_law_837 : decode code 837 = .ok (.ifCond .eq 5, 3) := by decide +kernel
theorem d_Lw_law_842 : decode code 842 = .ok (.goto 496, 3) := by decide +kernel
theorem d_Lw_law_845 : decode code 845 = .ok (.aload_n 1, 1) := by decide +kernel
theorem d_Lw_law_846 : decode code 846 = .ok (.aload_n 0, 1) := by decide +kernel
theorem d_Lw_law_847 : decode code 847 = .ok (.iload 4, 2) := by decide +kernel
theorem d_Lw_law_849 : decode code 849 = .ok (.iconst 1, 1) := by decide +kernel
theorem d_Lw_law_850 : decode code 850 = .ok (.iadd, 1) := by decide +kernel
theorem d_Lw_law_851 : decode code 851 = .ok (.iaload, 1) := by decide +kernel
theorem d_Lw_law_852 : decode code 852 = .ok (.aload_n 0, 1) := by decide +kernel
theorem d_Lw_law_853 : decode code 853 = .ok (.iload 4, 2) := by decide +kernel
theorem d_Lw_law_855 : decode code 855 = .ok (.iconst 2, 1) := by decide +kernel
theorem d_Lw_law_856 : decode code 856 = .ok (.iadd, 1) := by decide +kernel
theorem d_Lw_law_857 : decode code 857 = .ok (.iaload, 1) := by decide +kernel
theorem d_Lw_law_858 : decode code 858 = .ok (.aload_n 3, 1) := by decide +kernel
theorem d_Lw_law_859 : decode code 859 = .ok (.invokestatic 120, 3) := by decide +kernel
theorem d_Lw_law_862 : decode code 862 = .ok (.istore 5, 2) := by decide +kernel
theorem d_Lw_law_864 : decode code 864 = .ok (.aload_n 2, 1) := by decide +kernel
theorem d_Lw_law_865 : decode code 865 = .ok (.aload_n 0, 1) := by decide +kernel
theorem d_Lw_law_866 : decode code 866 = .ok (.iload 4, 2) := by decide +kernel
theorem d_Lw_law_868 : decode code 868 = .ok (.iconst 1, 1) := by decide +kernel
theorem d_Lw_law_869 : decode code 869 = .ok (.iadd, 1) := by decide +kernel
theorem d_Lw_law_870 : decode code 870 = .ok (.iaload, 1) := by decide +kernel
theorem d_Lw_law_871 : decode code 871 = .ok (.aload_n 0, 1) := by decide +kernel
theorem d_Lw_law_872 : decode code 872 = .ok (.iload 4, 2) := by decide +kernel
theorem d_Lw_law_874 : decode code 874 = .ok (.iconst 2, 1) := by decide +kernel
theorem d_Lw_law_875 : decode code 875 = .ok (.iadd, 1) := by decide +kernel
theorem d_Lw_law_876 : decode code 876 = .ok (.iaload, 1) := by decide +kernel
theorem d_Lw_law_877 : decode code 877 = .ok (.invokevirtual 122, 3) := by decide +kernel
theorem d_Lw_law_880 : decode code 880 = .ok (.istore 6, 2) := by decide +kernel
theorem d_Lw_law_882 : decode code 882 = .ok (.aload_n 2, 1) := by decide +kernel
theorem d_Lw_law_883 : decode code 883 = .ok (.invokevirtual 82, 3) := by decide +kernel
theorem d_Lw_law_886 : decode code 886 = .ok (.iload 5, 2) := by decide +kernel
theorem d_Lw_law_888 : decode code 888 = .ok (.if_icmp .eq 5, 3) := by decide +kernel
theorem d_Lw_law_893 : decode code 893 = .ok (.iload 5, 2) := by decide +kernel
theorem d_Lw_law_895 : decode code 895 = .ok (.ifCond .ne 15, 3) := by decide +kernel
theorem d_Lw_law_898 : decode code 898 = .ok (.aload_n 3, 1) := by decide +kernel
theorem d_Lw_law_899 : decode code 899 = .ok (.iconst 0, 1) := by decide +kernel
theorem d_Lw_law_900 : decode code 900 = .ok (.laload, 1) := by decide +kernel
theorem d_Lw_law_901 : decode code 901 = .ok (.iload 6, 2) := by decide +kernel
theorem d_Lw_law_903 : decode code 903 = .ok (.i2l, 1) := by decide +kernel
theorem d_Lw_law_904 : decode code 904 = .ok (.lcmp, 1) := by decide +kernel
theorem d_Lw_law_905 : decode code 905 = .ok (.ifCond .eq 5, 3) := by decide +kernel
theorem d_Lw_law_910 : decode code 910 = .ok (.goto 428, 3) := by decide +kernel
theorem d_Lw_law_913 : decode code 913 = .ok (.aload_n 1, 1) := by decide +kernel
theorem d_Lw_law_914 : decode code 914 = .ok (.aload_n 0, 1) := by decide +kernel
theorem d_Lw_law_915 : decode code 915 = .ok (.iload 4, 2) := by decide +kernel
theorem d_Lw_law_917 : decode code 917 = .ok (.iconst 1, 1) := by decide +kernel
theorem d_Lw_law_918 : decode code 918 = .ok (.iadd, 1) := by decide +kernel
theorem d_Lw_law_919 : decode code 919 = .ok (.iaload, 1) := by decide +kernel
theorem d_Lw_law_920 : decode code 920 = .ok (.aload_n 0, 1) := by decide +kernel
theorem d_Lw_law_921 : decode code 921 = .ok (.iload 4, 2) := by decide +kernel
theorem d_Lw_law_923 : decode code 923 = .ok (.iconst 2, 1) := by decide +kernel
theorem d_Lw_law_924 : decode code 924 = .ok (.iadd, 1) := by decide +kernel
theorem d_Lw_law_925 : decode code 925 = .ok (.iaload, 1) := by decide +kernel
theorem d_Lw_law_926 : decode code 926 = .ok (.aload_n 3, 1) := by decide +kernel
theorem d_Lw_law_927 : decode code 927 = .ok (.invokestatic 123, 3) := by decide +kernel
theorem d_Lw_law_930 : decode code 930 = .ok (.istore 5, 2) := by decide +kernel
theorem d_Lw_law_932 : decode code 932 = .ok (.aload_n 2, 1) := by decide +kernel
theorem d_Lw_law_933 : decode code 933 = .ok (.aload_n 0, 1) := by decide +kernel
theorem d_Lw_law_934 : decode code 934 = .ok (.iload 4, 2) := by decide +kernel
theorem d_Lw_law_936 : decode code 936 = .ok (.iconst 1, 1) := by decide +kernel
theorem d_Lw_law_937 : decode code 937 = .ok (.iadd, 1) := by decide +kernel
theorem d_Lw_law_938 : decode code 938 = .ok (.iaload, 1) := by decide +kernel
theorem d_Lw_law_939 : decode code 939 = .ok (.aload_n 0, 1) := by decide +kernel
theorem d_Lw_law_940 : decode code 940 = .ok (.iload 4, 2) := by decide +kernel
theorem d_Lw_law_942 : decode code 942 = .ok (.iconst 2, 1) := by decide +kernel
theorem d_Lw_law_943 : decode code 943 = .ok (.iadd, 1) := by decide +kernel
theorem d_Lw_law_944 : decode code 944 = .ok (.iaload, 1) := by decide +kernel
theorem d_Lw_law_945 : decode code 945 = .ok (.invokevirtual 125, 3) := by decide +kernel
theorem d_Lw_law_948 : decode code 948 = .ok (.istore 6, 2) := by decide +kernel
theorem d_Lw_law_950 : decode code 950 = .ok (.aload_n 2, 1) := by decide +kernel
theorem d_Lw_law_951 : decode code 951 = .ok (.invokevirtual 82, 3) := by decide +kernel
theorem d_Lw_law_954 : decode code 954 = .ok (.iload 5, 2) := by decide +kernel
theorem d_Lw_law_956 : decode code 956 = .ok (.if_icmp .eq 5, 3) := by decide +kernel
theorem d_Lw_law_961 : decode code 961 = .ok (.iload 5, 2) := by decide +kernel
theorem d_Lw_law_963 : decode code 963 = .ok (.ifCond .ne 15, 3) := by decide +kernel
theorem d_Lw_law_966 : decode code 966 = .ok (.aload_n 3, 1) := by decide +kernel
theorem d_Lw_law_967 : decode code 967 = .ok (.iconst 0, 1) := by decide +kernel
theorem d_Lw_law_968 : decode code 968 = .ok (.laload, 1) := by decide +kernel
theorem d_Lw_law_969 : decode code 969 = .ok (.iload 6, 2) := by decide +kernel
theorem d_Lw_law_971 : decode code 971 = .ok (.i2l, 1) := by decide +kernel
theorem d_Lw_law_972 : decode code 972 = .ok (.lcmp, 1) := by decide +kernel
theorem d_Lw_law_973 : decode code 973 = .ok (.ifCond .eq 5, 3) := by decide +kernel
theorem d_Lw_law_978 : decode code 978 = .ok (.goto 360, 3) := by decide +kernel
theorem d_Lw_law_981 : decode code 981 = .ok (.aload_n 1, 1) := by decide +kernel
theorem d_Lw_law_982 : decode code 982 = .ok (.aload_n 0, 1) := by decide +kernel
theorem d_Lw_law_983 : decode code 983 = .ok (.iload 4, 2) := by decide +kernel
theorem d_Lw_law_985 : decode code 985 = .ok (.iconst 1, 1) := by decide +kernel
theorem d_Lw_law_986 : decode code 986 = .ok (.iadd, 1) := by decide +kernel
theorem d_Lw_law_987 : decode code 987 = .ok (.iaload, 1) := by decide +kernel
theorem d_Lw_law_988 : decode code 988 = .ok (.aload_n 0, 1) := by decide +kernel
theorem d_Lw_law_989 : decode code 989 = .ok (.iload 4, 2) := by decide +kernel
theorem d_Lw_law_991 : decode code 991 = .ok (.iconst 2, 1) := by decide +kernel
theorem d_Lw_law_992 : decode code 992 = .ok (.iadd, 1) := by decide +kernel
theorem d_Lw_law_993 : decode code 993 = .ok (.iaload, 1) := by decide +kernel
theorem d_Lw_law_994 : decode code 994 = .ok (.aload_n 3, 1) := by decide +kernel
theorem d_Lw_law_995 : decode code 995 = .ok (.invokestatic 126, 3) := by decide +kernel
theorem d_Lw_law_998 : decode code 998 = .ok (.istore 5, 2) := by decide +kernel
theorem d_Lw_law_1000 : decode code 1000 = .ok (.aload_n 2, 1) := by decide +kernel
theorem d_Lw_law_1001 : decode code 1001 = .ok (.aload_n 0, 1) := by decide +kernel
theorem d_Lw_law_1002 : decode code 1002 = .ok (.iload 4, 2) := by decide +kernel
theorem d_Lw_law_1004 : decode code 1004 = .ok (.iconst 1, 1) := by decide +kernel
theorem d_Lw_law_1005 : decode code 1005 = .ok (.iadd, 1) := by decide +kernel
theorem d_Lw_law_1006 : decode code 1006 = .ok (.iaload, 1) := by decide +kernel
theorem d_Lw_law_1007 : decode code 1007 = .ok (.aload_n 0, 1) := by decide +kernel
theorem d_Lw_law_1008 : decode code 1008 = .ok (.iload 4, 2) := by decide +kernel
theorem d_Lw_law_1010 : decode code 1010 = .ok (.iconst 2, 1) := by decide +kernel
theorem d_Lw_law_1011 : decode code 1011 = .ok (.iadd, 1) := by decide +kernel
theorem d_Lw_law_1012 : decode code 1012 = .ok (.iaload, 1) := by decide +kernel
theorem d_Lw_law_1013 : decode code 1013 = .ok (.invokevirtual 128, 3) := by decide +kernel
theorem d_Lw_law_1016 : decode code 1016 = .ok (.istore 6, 2) := by decide +kernel
theorem d_Lw_law_1018 : decode code 1018 = .ok (.aload_n 2, 1) := by decide +kernel
theorem d_Lw_law_1019 : decode code 1019 = .ok (.invokevirtual 82, 3) := by decide +kernel
theorem d_Lw_law_1022 : decode code 1022 = .ok (.iload 5, 2) := by decide +kernel
theorem d_Lw_law_1024 : decode code 1024 = .ok (.if_icmp .eq 5, 3) := by decide +kernel
theorem d_Lw_law_1029 : decode code 1029 = .ok (.iload 5, 2) := by decide +kernel
theorem d_Lw_law_1031 : decode code 1031 = .ok (.ifCond .ne 15, 3) := by decide +kernel
theorem d_Lw_law_1034 : decode code 1034 = .ok (.aload_n 3, 1) := by decide +kernel
theorem d_Lw_law_1035 : decode code 1035 = .ok (.iconst 0, 1) := by decide +kernel
theorem d_Lw_law_1036 : decode code 1036 = .ok (.laload, 1) := by decide +kernel
theorem d_Lw_law_1037 : decode code 1037 = .ok (.iload 6, 2) := by decide +kernel
theorem d_Lw_law_1039 : decode code 1039 = .ok (.i2l, 1) := by decide +kernel
theorem d_Lw_law_1040 : decode code 1040 = .ok (.lcmp, 1) := by decide +kernel
theorem d_Lw_law_1041 : decode code 1041 = .ok (.ifCond .eq 5, 3) := by decide +kernel
theorem d_Lw_law_1046 : decode code 1046 = .ok (.goto 292, 3) := by decide +kernel
theorem d_Lw_law_1049 : decode code 1049 = .ok (.aload_n 1, 1) := by decide +kernel
theorem d_Lw_law_1050 : decode code 1050 = .ok (.aload_n 0, 1) := by decide +kernel
theorem d_Lw_law_1051 : decode code 1051 = .ok (.iload 4, 2) := by decide +kernel
theorem d_Lw_law_1053 : decode code 1053 = .ok (.iconst 1, 1) := by decide +kernel
theorem d_Lw_law_1054 : decode code 1054 = .ok (.iadd, 1) := by decide +kernel
theorem d_Lw_law_1055 : decode code 1055 = .ok (.iaload, 1) := by decide +kernel
theorem d_Lw_law_1056 : decode code 1056 = .ok (.aload_n 0, 1) := by decide +kernel
theorem d_Lw_law_1057 : decode code 1057 = .ok (.iload 4, 2) := by decide +kernel
theorem d_Lw_law_1059 : decode code 1059 = .ok (.iconst 2, 1) := by decide +kernel
theorem d_Lw_law_1060 : decode code 1060 = .ok (.iadd, 1) := by decide +kernel
theorem d_Lw_law_1061 : decode code 1061 = .ok (.iaload, 1) := by decide +kernel
theorem d_Lw_law_1062 : decode code 1062 = .ok (.aload_n 0, 1) := by decide +kernel
theorem d_Lw_law_1063 : decode code 1063 = .ok (.iload 4, 2) := by decide +kernel
theorem d_Lw_law_1065 : decode code 1065 = .ok (.iconst 3, 1) := by decide +kernel
theorem d_Lw_law_1066 : decode code 1066 = .ok (.iadd, 1) := by decide +kernel
theorem d_Lw_law_1067 : decode code 1067 = .ok (.iaload, 1) := by decide +kernel
theorem d_Lw_law_1068 : decode code 1068 = .ok (.aload_n 3, 1) := by decide +kernel
theorem d_Lw_law_1069 : decode code 1069 = .ok (.invokestatic 129, 3) := by decide +kernel
theorem d_Lw_law_1072 : decode code 1072 = .ok (.istore 5, 2) := by decide +kernel
theorem d_Lw_law_1074 : decode code 1074 = .ok (.aload_n 2, 1) := by decide +kernel
theorem d_Lw_law_1075 : decode code 1075 = .ok (.aload_n 0, 1) := by decide +kernel
theorem d_Lw_law_1076 : decode code 1076 = .ok (.iload 4, 2) := by decide +kernel
theorem d_Lw_law_1078 : decode code 1078 = .ok (.iconst 1, 1) := by decide +kernel
theorem d_Lw_law_1079 : decode code 1079 = .ok (.iadd, 1) := by decide +kernel
theorem d_Lw_law_1080 : decode code 1080 = .ok (.iaload, 1) := by decide +kernel
theorem d_Lw_law_1081 : decode code 1081 = .ok (.aload_n 0, 1) := by decide +kernel
theorem d_Lw_law_1082 : decode code 1082 = .ok (.iload 4, 2) := by decide +kernel
theorem d_Lw_law_1084 : decode code 1084 = .ok (.iconst 2, 1) := by decide +kernel
theorem d_Lw_law_1085 : decode code 1085 = .ok (.iadd, 1) := by decide +kernel
theorem d_Lw_law_1086 : decode code 1086 = .ok (.iaload, 1) := by decide +kernel
theorem d_Lw_law_1087 : decode code 1087 = .ok (.aload_n 0, 1) := by decide +kernel
theorem d_Lw_law_1088 : decode code 1088 = .ok (.iload 4, 2) := by decide +kernel
theorem d_Lw_law_1090 : decode code 1090 = .ok (.iconst 3, 1) := by decide +kernel
theorem d_Lw_law_1091 : decode code 1091 = .ok (.iadd, 1) := by decide +kernel
theorem d_Lw_law_1092 : decode code 1092 = .ok (.iaload, 1) := by decide +kernel
theorem d_Lw_law_1093 : decode code 1093 = .ok (.invokevirtual 131, 3) := by decide +kernel
theorem d_Lw_law_1096 : decode code 1096 = .ok (.istore 6, 2) := by decide +kernel
theorem d_Lw_law_1098 : decode code 1098 = .ok (.aload_n 2, 1) := by decide +kernel
theorem d_Lw_law_1099 : decode code 1099 = .ok (.invokevirtual 82, 3) := by decide +kernel
theorem d_Lw_law_1102 : decode code 1102 = .ok (.iload 5, 2) := by decide +kernel
theorem d_Lw_law_1104 : decode code 1104 = .ok (.if_icmp .eq 5, 3) := by decide +kernel
theorem d_Lw_law_1109 : decode code 1109 = .ok (.iload 5, 2) := by decide +kernel
theorem d_Lw_law_1111 : decode code 1111 = .ok (.ifCond .ne 15, 3) := by decide +kernel
theorem d_Lw_law_1114 : decode code 1114 = .ok (.aload_n 3, 1) := by decide +kernel
theorem d_Lw_law_1115 : decode code 1115 = .ok (.iconst 0, 1) := by decide +kernel
theorem d_Lw_law_1116 : decode code 1116 = .ok (.laload, 1) := by decide +kernel
theorem d_Lw_law_1117 : decode code 1117 = .ok (.iload 6, 2) := by decide +kernel
theorem d_Lw_law_1119 : decode code 1119 = .ok (.i2l, 1) := by decide +kernel
theorem d_Lw_law_1120 : decode code 1120 = .ok (.lcmp, 1) := by decide +kernel
theorem d_Lw_law_1121 : decode code 1121 = .ok (.ifCond .eq 5, 3) := by decide +kernel
theorem d_Lw_law_1126 : decode code 1126 = .ok (.goto 212, 3) := by decide +kernel
theorem d_Lw_law_1129 : decode code 1129 = .ok (.aload_n 1, 1) := by decide +kernel
theorem d_Lw_law_1130 : decode code 1130 = .ok (.aload_n 0, 1) := by decide +kernel
theorem d_Lw_law_1131 : decode code 1131 = .ok (.iload 4, 2) := by decide +kernel
theorem d_Lw_law_1133 : decode code 1133 = .ok (.iconst 1, 1) := by decide +kernel
theorem d_Lw_law_1134 : decode code 1134 = .ok (.iadd, 1) := by decide +kernel
theorem d_Lw_law_1135 : decode code 1135 = .ok (.iaload, 1) := by decide +kernel
theorem d_Lw_law_1136 : decode code 1136 = .ok (.aload_n 0, 1) := by decide +kernel
theorem d_Lw_law_1137 : decode code 1137 = .ok (.iload 4, 2) := by decide +kernel
theorem d_Lw_law_1139 : decode code 1139 = .ok (.iconst 2, 1) := by decide +kernel
theorem d_Lw_law_1140 : decode code 1140 = .ok (.iadd, 1) := by decide +kernel
theorem d_Lw_law_1141 : decode code 1141 = .ok (.iaload, 1) := by decide +kernel
theorem d_Lw_law_1142 : decode code 1142 = .ok (.aload_n 0, 1) := by decide +kernel
theorem d_Lw_law_1143 : decode code 1143 = .ok (.iload 4, 2) := by decide +kernel
theorem d_Lw_law_1145 : decode code 1145 = .ok (.iconst 3, 1) := by decide +kernel
theorem d_Lw_law_1146 : decode code 1146 = .ok (.iadd, 1) := by decide +kernel
theorem d_Lw_law_1147 : decode code 1147 = .ok (.iaload, 1) := by decide +kernel
theorem d_Lw_law_1148 : decode code 1148 = .ok (.aload_n 0, 1) := by decide +kernel
theorem d_Lw_law_1149 : decode code 1149 = .ok (.iload 4, 2) := by decide +kernel
theorem d_Lw_law_1151 : decode code 1151 = .ok (.iconst 4, 1) := by decide +kernel
theorem d_Lw_law_1152 : decode code 1152 = .ok (.iadd, 1) := by decide +kernel
theorem d_Lw_law_1153 : decode code 1153 = .ok (.iaload, 1) := by decide +kernel
theorem d_Lw_law_1154 : decode code 1154 = .ok (.aload_n 3, 1) := by decide +kernel
theorem d_Lw_law_1155 : decode code 1155 = .ok (.invokestatic 132, 3) := by decide +kernel
theorem d_Lw_law_1158 : decode code 1158 = .ok (.istore 5, 2) := by decide +kernel
theorem d_Lw_law_1160 : decode code 1160 = .ok (.aload_n 2, 1) := by decide +kernel
theorem d_Lw_law_1161 : decode code 1161 = .ok (.aload_n 0, 1) := by decide +kernel
theorem d_Lw_law_1162 : decode code 1162 = .ok (.iload 4, 2) := by decide +kernel
theorem d_Lw_law_1164 : decode code 1164 = .ok (.iconst 1, 1) := by decide +kernel
theorem d_Lw_law_1165 : decode code 1165 = .ok (.iadd, 1) := by decide +kernel
theorem d_Lw_law_1166 : decode code 1166 = .ok (.iaload, 1) := by decide +kernel
theorem d_Lw_law_1167 : decode code 1167 = .ok (.aload_n 0, 1) := by decide +kernel
theorem d_Lw_law_1168 : decode code 1168 = .ok (.iload 4, 2) := by decide +kernel
theorem d_Lw_law_1170 : decode code 1170 = .ok (.iconst 2, 1) := by decide +kernel
theorem d_Lw_law_1171 : decode code 1171 = .ok (.iadd, 1) := by decide +kernel
theorem d_Lw_law_1172 : decode code 1172 = .ok (.iaload, 1) := by decide +kernel
theorem d_Lw_law_1173 : decode code 1173 = .ok (.aload_n 0, 1) := by decide +kernel
theorem d_Lw_law_1174 : decode code 1174 = .ok (.iload 4, 2) := by decide +kernel
theorem d_Lw_law_1176 : decode code 1176 = .ok (.iconst 3, 1) := by decide +kernel
theorem d_Lw_law_1177 : decode code 1177 = .ok (.iadd, 1) := by decide +kernel
theorem d_Lw_law_1178 : decode code 1178 = .ok (.iaload, 1) := by decide +kernel
theorem d_Lw_law_1179 : decode code 1179 = .ok (.aload_n 0, 1) := by decide +kernel
theorem d_Lw_law_1180 : decode code 1180 = .ok (.iload 4, 2) := by decide +kernel
theorem d_Lw_law_1182 : decode code 1182 = .ok (.iconst 4, 1) := by decide +kernel
theorem d_Lw_law_1183 : decode code 1183 = .ok (.iadd, 1) := by decide +kernel
theorem d_Lw_law_1184 : decode code 1184 = .ok (.iaload, 1) := by decide +kernel
theorem d_Lw_law_1185 : decode code 1185 = .ok (.invokevirtual 135, 3) := by decide +kernel
theorem d_Lw_law_1188 : decode code 1188 = .ok (.istore 6, 2) := by decide +kernel
theorem d_Lw_law_1190 : decode code 1190 = .ok (.aload_n 2, 1) := by decide +kernel
theorem d_Lw_law_1191 : decode code 1191 = .ok (.invokevirtual 82, 3) := by decide +kernel
theorem d_Lw_law_1194 : decode code 1194 = .ok (.iload 5, 2) := by decide +kernel
theorem d_Lw_law_1196 : decode code 1196 = .ok (.if_icmp .eq 5, 3) := by decide +kernel
theorem d_Lw_law_1201 : decode code 1201 = .ok (.iload 5, 2) := by decide +kernel
theorem d_Lw_law_1203 : decode code 1203 = .ok (.ifCond .ne 15, 3) := by decide +kernel
theorem d_Lw_law_1206 : decode code 1206 = .ok (.aload_n 3, 1) := by decide +kernel
theorem d_Lw_law_1207 : decode code 1207 = .ok (.iconst 0, 1) := by decide +kernel
theorem d_Lw_law_1208 : decode code 1208 = .ok (.laload, 1) := by decide +kernel
theorem d_Lw_law_1209 : decode code 1209 = .ok (.iload 6, 2) := by decide +kernel
theorem d_Lw_law_1211 : decode code 1211 = .ok (.i2l, 1) := by decide +kernel
theorem d_Lw_law_1212 : decode code 1212 = .ok (.lcmp, 1) := by decide +kernel
theorem d_Lw_law_1213 : decode code 1213 = .ok (.ifCond .eq 5, 3) := by decide +kernel
theorem d_Lw_law_1218 : decode code 1218 = .ok (.goto 120, 3) := by decide +kernel
theorem d_Lw_law_1221 : decode code 1221 = .ok (.aload_n 1, 1) := by decide +kernel
theorem d_Lw_law_1222 : decode code 1222 = .ok (.aload_n 0, 1) := by decide +kernel
theorem d_Lw_law_1223 : decode code 1223 = .ok (.iload 4, 2) := by decide +kernel
theorem d_Lw_law_1225 : decode code 1225 = .ok (.iconst 1, 1) := by decide +kernel
theorem d_Lw_law_1226 : decode code 1226 = .ok (.iadd, 1) := by decide +kernel
theorem d_Lw_law_1227 : decode code 1227 = .ok (.iaload, 1) := by decide +kernel
theorem d_Lw_law_1228 : decode code 1228 = .ok (.aload_n 0, 1) := by decide +kernel
theorem d_Lw_law_1229 : decode code 1229 = .ok (.iload 4, 2) := by decide +kernel
theorem d_Lw_law_1231 : decode code 1231 = .ok (.iconst 2, 1) := by decide +kernel
theorem d_Lw_law_1232 : decode code 1232 = .ok (.iadd, 1) := by decide +kernel
theorem d_Lw_law_1233 : decode code 1233 = .ok (.iaload, 1) := by decide +kernel
theorem d_Lw_law_1234 : decode code 1234 = .ok (.aload_n 0, 1) := by decide +kernel
theorem d_Lw_law_1235 : decode code 1235 = .ok (.iload 4, 2) := by decide +kernel
theorem d_Lw_law_1237 : decode code 1237 = .ok (.iconst 3, 1) := by decide +kernel
theorem d_Lw_law_1238 : decode code 1238 = .ok (.iadd, 1) := by decide +kernel
theorem d_Lw_law_1239 : decode code 1239 = .ok (.iaload, 1) := by decide +kernel
theorem d_Lw_law_1240 : decode code 1240 = .ok (.aload_n 0, 1) := by decide +kernel
theorem d_Lw_law_1241 : decode code 1241 = .ok (.iload 4, 2) := by decide +kernel
theorem d_Lw_law_1243 : decode code 1243 = .ok (.iconst 4, 1) := by decide +kernel
theorem d_Lw_law_1244 : decode code 1244 = .ok (.iadd, 1) := by decide +kernel
theorem d_Lw_law_1245 : decode code 1245 = .ok (.iaload, 1) := by decide +kernel
theorem d_Lw_law_1246 : decode code 1246 = .ok (.aload_n 3, 1) := by decide +kernel
theorem d_Lw_law_1247 : decode code 1247 = .ok (.invokestatic 136, 3) := by decide +kernel
theorem d_Lw_law_1250 : decode code 1250 = .ok (.istore 5, 2) := by decide +kernel
theorem d_Lw_law_1252 : decode code 1252 = .ok (.aload_n 2, 1) := by decide +kernel
theorem d_Lw_law_1253 : decode code 1253 = .ok (.aload_n 0, 1) := by decide +kernel
theorem d_Lw_law_1254 : decode code 1254 = .ok (.iload 4, 2) := by decide +kernel
theorem d_Lw_law_1256 : decode code 1256 = .ok (.iconst 1, 1) := by decide +kernel
theorem d_Lw_law_1257 : decode code 1257 = .ok (.iadd, 1) := by decide +kernel
theorem d_Lw_law_1258 : decode code 1258 = .ok (.iaload, 1) := by decide +kernel
theorem d_Lw_law_1259 : decode code 1259 = .ok (.aload_n 0, 1) := by decide +kernel
theorem d_Lw_law_1260 : decode code 1260 = .ok (.iload 4, 2) := by decide +kernel
theorem d_Lw_law_1262 : decode code 1262 = .ok (.iconst 2, 1) := by decide +kernel
theorem d_Lw_law_1263 : decode code 1263 = .ok (.iadd, 1) := by decide +kernel
theorem d_Lw_law_1264 : decode code 1264 = .ok (.iaload, 1) := by decide +kernel
theorem d_Lw_law_1265 : decode code 1265 = .ok (.aload_n 0, 1) := by decide +kernel
theorem d_Lw_law_1266 : decode code 1266 = .ok (.iload 4, 2) := by decide +kernel
theorem d_Lw_law_1268 : decode code 1268 = .ok (.iconst 3, 1) := by decide +kernel
theorem d_Lw_law_1269 : decode code 1269 = .ok (.iadd, 1) := by decide +kernel
theorem d_Lw_law_1270 : decode code 1270 = .ok (.iaload, 1) := by decide +kernel
theorem d_Lw_law_1271 : decode code 1271 = .ok (.aload_n 0, 1) := by decide +kernel
theorem d_Lw_law_1272 : decode code 1272 = .ok (.iload 4, 2) := by decide +kernel
theorem d_Lw_law_1274 : decode code 1274 = .ok (.iconst 4, 1) := by decide +kernel
theorem d_Lw_law_1275 : decode code 1275 = .ok (.iadd, 1) := by decide +kernel
theorem d_Lw_law_1276 : decode code 1276 = .ok (.iaload, 1) := by decide +kernel
theorem d_Lw_law_1277 : decode code 1277 = .ok (.invokevirtual 138, 3) := by decide +kernel
theorem d_Lw_law_1280 : decode code 1280 = .ok (.istore 6, 2) := by decide +kernel
theorem d_Lw_law_1282 : decode code 1282 = .ok (.aload_n 2, 1) := by decide +kernel
theorem d_Lw_law_1283 : decode code 1283 = .ok (.invokevirtual 82, 3) := by decide +kernel
theorem d_Lw_law_1286 : decode code 1286 = .ok (.iload 5, 2) := by decide +kernel
theorem d_Lw_law_1288 : decode code 1288 = .ok (.if_icmp .eq 5, 3) := by decide +kernel
theorem d_Lw_law_1293 : decode code 1293 = .ok (.iload 5, 2) := by decide +kernel
theorem d_Lw_law_1295 : decode code 1295 = .ok (.ifCond .ne 15, 3) := by decide +kernel
theorem d_Lw_law_1298 : decode code 1298 = .ok (.aload_n 3, 1) := by decide +kernel
theorem d_Lw_law_1299 : decode code 1299 = .ok (.iconst 0, 1) := by decide +kernel
theorem d_Lw_law_1300 : decode code 1300 = .ok (.laload, 1) := by decide +kernel
theorem d_Lw_law_1301 : decode code 1301 = .ok (.iload 6, 2) := by decide +kernel
theorem d_Lw_law_1303 : decode code 1303 = .ok (.i2l, 1) := by decide +kernel
theorem d_Lw_law_1304 : decode code 1304 = .ok (.lcmp, 1) := by decide +kernel
theorem d_Lw_law_1305 : decode code 1305 = .ok (.ifCond .eq 5, 3) := by decide +kernel
theorem d_Lw_law_1310 : decode code 1310 = .ok (.goto 28, 3) := by decide +kernel
theorem d_Lw_law_1313 : decode code 1313 = .ok (.aload_n 1, 1) := by decide +kernel
theorem d_Lw_law_1314 : decode code 1314 = .ok (.aload_n 0, 1) := by decide +kernel
theorem d_Lw_law_1315 : decode code 1315 = .ok (.iload 4, 2) := by decide +kernel
theorem d_Lw_law_1317 : decode code 1317 = .ok (.iconst 1, 1) := by decide +kernel
theorem d_Lw_law_1318 : decode code 1318 = .ok (.iadd, 1) := by decide +kernel
theorem d_Lw_law_1319 : decode code 1319 = .ok (.iaload, 1) := by decide +kernel
theorem d_Lw_law_1320 : decode code 1320 = .ok (.invokevirtual 139, 3) := by decide +kernel
theorem d_Lw_law_1323 : decode code 1323 = .ok (.aload_n 2, 1) := by decide +kernel
theorem d_Lw_law_1324 : decode code 1324 = .ok (.aload_n 0, 1) := by decide +kernel
theorem d_Lw_law_1325 : decode code 1325 = .ok (.iload 4, 2) := by decide +kernel
theorem d_Lw_law_1327 : decode code 1327 = .ok (.iconst 1, 1) := by decide +kernel
theorem d_Lw_law_1328 : decode code 1328 = .ok (.iadd, 1) := by decide +kernel
theorem d_Lw_law_1329 : decode code 1329 = .ok (.iaload, 1) := by decide +kernel
theorem d_Lw_law_1330 : decode code 1330 = .ok (.invokevirtual 142, 3) := by decide +kernel
theorem d_Lw_law_1333 : decode code 1333 = .ok (.if_icmp .eq 5, 3) := by decide +kernel
theorem d_Lw_law_1338 : decode code 1338 = .ok (.iinc 4 6, 3) := by decide +kernel
theorem d_Lw_law_1341 : decode code 1341 = .ok (.goto (-1318), 3) := by decide +kernel
theorem d_Lw_law_1344 : decode code 1344 = .ok (.iconst 1, 1) := by decide +kernel
theorem d_Lw_law_1345 : decode code 1345 = .ok (.ireturn, 1) := by decide +kernel

