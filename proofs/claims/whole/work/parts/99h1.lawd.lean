def R_law : String := "ShareMonitorLaw"
def lw_P (b : Addr) (xs : List Int32) (args : Array Value) (s : State) : Prop := args = #[.ref b] ∧ s.IntsAt b xs ∧ xs.length ≤ 3072 ∧ (Jvm.Cond.and given_1 narrow_1).before args s = true
def lw_Q (_ : Array Value) (s : State) (o : Outcome) (t : State) : Prop := o = .returned (some (.int 1)) ∧ Framed s o t [] 601024 7293034
def lw_Z (below : List Frame) (a : Array Value) (s : State) : State → Prop := fun t => ∃ o, t.status = .running ∧ Ended t below o ∧ lw_Q a s o t
/-- the law's own end, with 1 on the stack, nothing written that was there before, its room as the claim has it -/
theorem lw_ret {p : Program} {l : Launch} {e : Env} {s : State} {m : MethodId} {below : List Frame} {meth : Method} {c : Code} {b : Nat} (hx : p.tables.exec = Jvm.exec) (hb : c.code = code) (hr : meth.sig.returnType = ret) (hlocks : meth.locks = false) {pc : Nat} {H : Heap} {ls : Array Slot} (hdg : decode code pc = .ok (.ireturn, 1)) : W p l e room_1 s m #[Value.ref b] below meth c H [] 601024 7293034 (lw_Z below #[Value.ref b] s) (F0 m pc ls [.int 1]) := by
  intro T hT X
  obtain ⟨fs, hret, hrun, hended, hW, hframe⟩ := X.leave (v := some (.int 1)) (hlocks := hlocks) (fun h => by rw [hr] at h; cases h)
  have hmeth' : T.vm.method? m = some meth := X.method'
  refine ⟨T.setFrames fs, ?_, .returned (some (.int 1)), hrun, hended, rfl, ⟨_, rfl⟩, hW, hframe⟩
  jvm_step X.here [X.here.top, hx, hb, hdg, hmeth', hr, ret, narrow_b1]
  (try refine ⟨rfl, ?_⟩); (try refine ⟨rfl, ?_⟩)
  first | (intro acts; rw [hret _ acts rfl rfl rfl]) | rw [hret _ _ rfl rfl rfl]
  exact Steps.refl _
/-- what holds at the law's entry: the machine, the code, the tables' words (any of lw_tbl by 'hts w (by decide +kernel)'), the script of L ints xs at the cell b, what the Statement gives of the start (any of its parts by flat_of_before) -/
def lw_At (p : Program) (s : State) (m : MethodId) (meth : Method) (c : Code) (b L : Nat) (xs : Nat → Int32) : Prop :=
  p.tables.exec = Jvm.exec ∧ c.code = code ∧ meth.sig.returnType = ret ∧ c.maxLocals = 7 ∧ s.vm.findClass R_law = some m.cls ∧ (∀ w ∈ lw_tbl, w.before #[Value.ref b] s = true) ∧ va_X b L xs s s.heap ∧ b < s.heap.size ∧ meth.locks = false ∧ (Jvm.Cond.and given_1 narrow_1).before #[Value.ref b] s = true
theorem dW_0 : decode code 0 = .ok (.new 8, 3) := by decide +kernel
theorem dW_3 : decode code 3 = .ok (.dup, 1) := by decide +kernel
theorem dW_4 : decode code 4 = .ok (.invokespecial 78, 3) := by decide +kernel
theorem dW_7 : decode code 7 = .ok (.astore_n 1, 1) := by decide +kernel
theorem dW_8 : decode code 8 = .ok (.new 79, 3) := by decide +kernel
theorem dW_11 : decode code 11 = .ok (.dup, 1) := by decide +kernel
theorem dW_12 : decode code 12 = .ok (.invokespecial 81, 3) := by decide +kernel
theorem dW_15 : decode code 15 = .ok (.astore_n 2, 1) := by decide +kernel
theorem dW_16 : decode code 16 = .ok (.iconst 1, 1) := by decide +kernel
theorem dW_17 : decode code 17 = .ok (.newarray .long, 2) := by decide +kernel
theorem dW_19 : decode code 19 = .ok (.astore_n 3, 1) := by decide +kernel
theorem dW_20 : decode code 20 = .ok (.iconst 0, 1) := by decide +kernel
theorem dW_21 : decode code 21 = .ok (.istore 4, 2) := by decide +kernel
theorem dW_23 : decode code 23 = .ok (.iload 4, 2) := by decide +kernel
theorem dW_25 : decode code 25 = .ok (.aload_n 0, 1) := by decide +kernel
theorem dW_26 : decode code 26 = .ok (.arraylength, 1) := by decide +kernel
theorem dW_27 : decode code 27 = .ok (.bipush 6, 2) := by decide +kernel
theorem dW_29 : decode code 29 = .ok (.isub, 1) := by decide +kernel
theorem dW_30 : decode code 30 = .ok (.if_icmp .gt 1319, 3) := by decide +kernel
theorem dW_33 : decode code 33 = .ok (.aload_n 0, 1) := by decide +kernel
theorem dW_34 : decode code 34 = .ok (.iload 4, 2) := by decide +kernel
theorem dW_36 : decode code 36 = .ok (.iaload, 1) := by decide +kernel
theorem dW_37 : decode code 37 = .ok (.bipush 31, 2) := by decide +kernel
theorem dW_39 : decode code 39 = .ok (.iand, 1) := by decide +kernel
theorem dW_40 : decode code 40 = .ok (.tableswitch 1303 0 19 #[96, 200, 236, 292, 305, 318, 374, 430, 493, 549, 624, 699, 767, 835, 931, 999, 1055, 1123, 1191, 1247], 96) := by decide +kernel
theorem dW_136 : decode code 136 = .ok (.aload_n 1, 1) := by decide +kernel
theorem dW_137 : decode code 137 = .ok (.aload_n 0, 1) := by decide +kernel
theorem dW_138 : decode code 138 = .ok (.iload 4, 2) := by decide +kernel
theorem dW_140 : decode code 140 = .ok (.iconst 1, 1) := by decide +kernel
theorem dW_141 : decode code 141 = .ok (.iadd, 1) := by decide +kernel
theorem dW_142 : decode code 142 = .ok (.iaload, 1) := by decide +kernel
theorem dW_143 : decode code 143 = .ok (.aload_n 0, 1) := by decide +kernel
theorem dW_144 : decode code 144 = .ok (.iload 4, 2) := by decide +kernel
theorem dW_146 : decode code 146 = .ok (.iconst 2, 1) := by decide +kernel
theorem dW_147 : decode code 147 = .ok (.iadd, 1) := by decide +kernel
theorem dW_148 : decode code 148 = .ok (.iaload, 1) := by decide +kernel
theorem dW_149 : decode code 149 = .ok (.aload_n 0, 1) := by decide +kernel
theorem dW_150 : decode code 150 = .ok (.iload 4, 2) := by decide +kernel
theorem dW_152 : decode code 152 = .ok (.iconst 3, 1) := by decide +kernel
theorem dW_153 : decode code 153 = .ok (.iadd, 1) := by decide +kernel
theorem dW_154 : decode code 154 = .ok (.iaload, 1) := by decide +kernel
theorem dW_155 : decode code 155 = .ok (.aload_n 0, 1) := by decide +kernel
theorem dW_156 : decode code 156 = .ok (.iload 4, 2) := by decide +kernel
theorem dW_158 : decode code 158 = .ok (.iconst 4, 1) := by decide +kernel
theorem dW_159 : decode code 159 = .ok (.iadd, 1) := by decide +kernel
theorem dW_160 : decode code 160 = .ok (.iaload, 1) := by decide +kernel
theorem dW_161 : decode code 161 = .ok (.aload_n 0, 1) := by decide +kernel
theorem dW_162 : decode code 162 = .ok (.iload 4, 2) := by decide +kernel
theorem dW_164 : decode code 164 = .ok (.iconst 5, 1) := by decide +kernel
theorem dW_165 : decode code 165 = .ok (.iadd, 1) := by decide +kernel
theorem dW_166 : decode code 166 = .ok (.iaload, 1) := by decide +kernel
theorem dW_167 : decode code 167 = .ok (.aload_n 3, 1) := by decide +kernel
theorem dW_168 : decode code 168 = .ok (.invokestatic 82, 3) := by decide +kernel
theorem dW_171 : decode code 171 = .ok (.istore 5, 2) := by decide +kernel
theorem dW_173 : decode code 173 = .ok (.aload_n 2, 1) := by decide +kernel
theorem dW_174 : decode code 174 = .ok (.aload_n 0, 1) := by decide +kernel
theorem dW_175 : decode code 175 = .ok (.iload 4, 2) := by decide +kernel
theorem dW_177 : decode code 177 = .ok (.iconst 1, 1) := by decide +kernel
theorem dW_178 : decode code 178 = .ok (.iadd, 1) := by decide +kernel
theorem dW_179 : decode code 179 = .ok (.iaload, 1) := by decide +kernel
theorem dW_180 : decode code 180 = .ok (.aload_n 0, 1) := by decide +kernel
theorem dW_181 : decode code 181 = .ok (.iload 4, 2) := by decide +kernel
theorem dW_183 : decode code 183 = .ok (.iconst 2, 1) := by decide +kernel
theorem dW_184 : decode code 184 = .ok (.iadd, 1) := by decide +kernel
theorem dW_185 : decode code 185 = .ok (.iaload, 1) := by decide +kernel
theorem dW_186 : decode code 186 = .ok (.aload_n 0, 1) := by decide +kernel
theorem dW_187 : decode code 187 = .ok (.iload 4, 2) := by decide +kernel
theorem dW_189 : decode code 189 = .ok (.iconst 3, 1) := by decide +kernel
theorem dW_190 : decode code 190 = .ok (.iadd, 1) := by decide +kernel
theorem dW_191 : decode code 191 = .ok (.iaload, 1) := by decide +kernel
theorem dW_192 : decode code 192 = .ok (.aload_n 0, 1) := by decide +kernel
theorem dW_193 : decode code 193 = .ok (.iload 4, 2) := by decide +kernel
theorem dW_195 : decode code 195 = .ok (.iconst 4, 1) := by decide +kernel
theorem dW_196 : decode code 196 = .ok (.iadd, 1) := by decide +kernel
theorem dW_197 : decode code 197 = .ok (.iaload, 1) := by decide +kernel
theorem dW_198 : decode code 198 = .ok (.aload_n 0, 1) := by decide +kernel
theorem dW_199 : decode code 199 = .ok (.iload 4, 2) := by decide +kernel
theorem dW_201 : decode code 201 = .ok (.iconst 5, 1) := by decide +kernel
theorem dW_202 : decode code 202 = .ok (.iadd, 1) := by decide +kernel
theorem dW_203 : decode code 203 = .ok (.iaload, 1) := by decide +kernel
theorem dW_204 : decode code 204 = .ok (.invokevirtual 87, 3) := by decide +kernel
theorem dW_207 : decode code 207 = .ok (.istore 6, 2) := by decide +kernel
theorem dW_209 : decode code 209 = .ok (.aload_n 2, 1) := by decide +kernel
theorem dW_210 : decode code 210 = .ok (.invokevirtual 88, 3) := by decide +kernel
theorem dW_213 : decode code 213 = .ok (.iload 5, 2) := by decide +kernel
theorem dW_215 : decode code 215 = .ok (.if_icmp .eq 5, 3) := by decide +kernel
theorem dW_218 : decode code 218 = .ok (.iconst 0, 1) := by decide +kernel
theorem dW_219 : decode code 219 = .ok (.ireturn, 1) := by decide +kernel
theorem dW_220 : decode code 220 = .ok (.iload 5, 2) := by decide +kernel
theorem dW_222 : decode code 222 = .ok (.ifCond .ne 15, 3) := by decide +kernel
theorem dW_225 : decode code 225 = .ok (.aload_n 3, 1) := by decide +kernel
theorem dW_226 : decode code 226 = .ok (.iconst 0, 1) := by decide +kernel
theorem dW_227 : decode code 227 = .ok (.laload, 1) := by decide +kernel
theorem dW_228 : decode code 228 = .ok (.iload 6, 2) := by decide +kernel
theorem dW_230 : decode code 230 = .ok (.i2l, 1) := by decide +kernel
theorem dW_231 : decode code 231 = .ok (.lcmp, 1) := by decide +kernel
theorem dW_232 : decode code 232 = .ok (.ifCond .eq 5, 3) := by decide +kernel
theorem dW_235 : decode code 235 = .ok (.iconst 0, 1) := by decide +kernel
theorem dW_236 : decode code 236 = .ok (.ireturn, 1) := by decide +kernel
theorem dW_237 : decode code 237 = .ok (.goto 1106, 3) := by decide +kernel
theorem dW_240 : decode code 240 = .ok (.aload_n 1, 1) := by decide +kernel
theorem dW_241 : decode code 241 = .ok (.aload_n 0, 1) := by decide +kernel
theorem dW_242 : decode code 242 = .ok (.iload 4, 2) := by decide +kernel
theorem dW_244 : decode code 244 = .ok (.iconst 1, 1) := by decide +kernel
theorem dW_245 : decode code 245 = .ok (.iadd, 1) := by decide +kernel
theorem dW_246 : decode code 246 = .ok (.iaload, 1) := by decide +kernel
theorem dW_247 : decode code 247 = .ok (.invokestatic 92, 3) := by decide +kernel
theorem dW_250 : decode code 250 = .ok (.istore 5, 2) := by decide +kernel
theorem dW_252 : decode code 252 = .ok (.aload_n 2, 1) := by decide +kernel
theorem dW_253 : decode code 253 = .ok (.aload_n 0, 1) := by decide +kernel
theorem dW_254 : decode code 254 = .ok (.iload 4, 2) := by decide +kernel
theorem dW_256 : decode code 256 = .ok (.iconst 1, 1) := by decide +kernel
theorem dW_257 : decode code 257 = .ok (.iadd, 1) := by decide +kernel
theorem dW_258 : decode code 258 = .ok (.iaload, 1) := by decide +kernel
theorem dW_259 : decode code 259 = .ok (.invokevirtual 95, 3) := by decide +kernel
theorem dW_262 : decode code 262 = .ok (.aload_n 2, 1) := by decide +kernel
theorem dW_263 : decode code 263 = .ok (.invokevirtual 88, 3) := by decide +kernel
theorem dW_266 : decode code 266 = .ok (.iload 5, 2) := by decide +kernel
theorem dW_268 : decode code 268 = .ok (.if_icmp .eq 5, 3) := by decide +kernel
theorem dW_271 : decode code 271 = .ok (.iconst 0, 1) := by decide +kernel
theorem dW_272 : decode code 272 = .ok (.ireturn, 1) := by decide +kernel
theorem dW_273 : decode code 273 = .ok (.goto 1070, 3) := by decide +kernel
theorem dW_276 : decode code 276 = .ok (.aload_n 1, 1) := by decide +kernel
theorem dW_277 : decode code 277 = .ok (.aload_n 0, 1) := by decide +kernel
theorem dW_278 : decode code 278 = .ok (.iload 4, 2) := by decide +kernel
theorem dW_280 : decode code 280 = .ok (.iconst 1, 1) := by decide +kernel
theorem dW_281 : decode code 281 = .ok (.iadd, 1) := by decide +kernel
theorem dW_282 : decode code 282 = .ok (.iaload, 1) := by decide +kernel
theorem dW_283 : decode code 283 = .ok (.aload_n 3, 1) := by decide +kernel
theorem dW_284 : decode code 284 = .ok (.invokestatic 96, 3) := by decide +kernel
theorem dW_287 : decode code 287 = .ok (.istore 5, 2) := by decide +kernel
theorem dW_289 : decode code 289 = .ok (.aload_n 2, 1) := by decide +kernel
theorem dW_290 : decode code 290 = .ok (.aload_n 0, 1) := by decide +kernel
theorem dW_291 : decode code 291 = .ok (.iload 4, 2) := by decide +kernel
theorem dW_293 : decode code 293 = .ok (.iconst 1, 1) := by decide +kernel
theorem dW_294 : decode code 294 = .ok (.iadd, 1) := by decide +kernel
theorem dW_295 : decode code 295 = .ok (.iaload, 1) := by decide +kernel
theorem dW_296 : decode code 296 = .ok (.invokevirtual 99, 3) := by decide +kernel
theorem dW_299 : decode code 299 = .ok (.istore 6, 2) := by decide +kernel
theorem dW_301 : decode code 301 = .ok (.aload_n 2, 1) := by decide +kernel
theorem dW_302 : decode code 302 = .ok (.invokevirtual 88, 3) := by decide +kernel
theorem dW_305 : decode code 305 = .ok (.iload 5, 2) := by decide +kernel
theorem dW_307 : decode code 307 = .ok (.if_icmp .eq 5, 3) := by decide +kernel
theorem dW_310 : decode code 310 = .ok (.iconst 0, 1) := by decide +kernel
theorem dW_311 : decode code 311 = .ok (.ireturn, 1) := by decide +kernel
theorem dW_312 : decode code 312 = .ok (.iload 5, 2) := by decide +kernel
theorem dW_314 : decode code 314 = .ok (.ifCond .ne 15, 3) := by decide +kernel
theorem dW_317 : decode code 317 = .ok (.aload_n 3, 1) := by decide +kernel
theorem dW_318 : decode code 318 = .ok (.iconst 0, 1) := by decide +kernel
theorem dW_319 : decode code 319 = .ok (.laload, 1) := by decide +kernel
theorem dW_320 : decode code 320 = .ok (.iload 6, 2) := by decide +kernel
theorem dW_322 : decode code 322 = .ok (.i2l, 1) := by decide +kernel
theorem dW_323 : decode code 323 = .ok (.lcmp, 1) := by decide +kernel
theorem dW_324 : decode code 324 = .ok (.ifCond .eq 5, 3) := by decide +kernel
theorem dW_327 : decode code 327 = .ok (.iconst 0, 1) := by decide +kernel
theorem dW_328 : decode code 328 = .ok (.ireturn, 1) := by decide +kernel
theorem dW_329 : decode code 329 = .ok (.goto 1014, 3) := by decide +kernel
theorem dW_332 : decode code 332 = .ok (.aload_n 1, 1) := by decide +kernel
theorem dW_333 : decode code 333 = .ok (.invokevirtual 100, 3) := by decide +kernel
theorem dW_336 : decode code 336 = .ok (.aload_n 2, 1) := by decide +kernel
theorem dW_337 : decode code 337 = .ok (.invokevirtual 103, 3) := by decide +kernel
theorem dW_340 : decode code 340 = .ok (.if_icmp .eq 1003, 3) := by decide +kernel
theorem dW_343 : decode code 343 = .ok (.iconst 0, 1) := by decide +kernel
theorem dW_344 : decode code 344 = .ok (.ireturn, 1) := by decide +kernel
theorem dW_345 : decode code 345 = .ok (.aload_n 1, 1) := by decide +kernel
theorem dW_346 : decode code 346 = .ok (.invokevirtual 104, 3) := by decide +kernel
theorem dW_349 : decode code 349 = .ok (.aload_n 2, 1) := by decide +kernel
theorem dW_350 : decode code 350 = .ok (.invokevirtual 107, 3) := by decide +kernel
theorem dW_353 : decode code 353 = .ok (.if_icmp .eq 990, 3) := by decide +kernel
theorem dW_356 : decode code 356 = .ok (.iconst 0, 1) := by decide +kernel
theorem dW_357 : decode code 357 = .ok (.ireturn, 1) := by decide +kernel
theorem dW_358 : decode code 358 = .ok (.aload_n 1, 1) := by decide +kernel
theorem dW_359 : decode code 359 = .ok (.aload_n 0, 1) := by decide +kernel
theorem dW_360 : decode code 360 = .ok (.iload 4, 2) := by decide +kernel
theorem dW_362 : decode code 362 = .ok (.iconst 1, 1) := by decide +kernel
theorem dW_363 : decode code 363 = .ok (.iadd, 1) := by decide +kernel
theorem dW_364 : decode code 364 = .ok (.iaload, 1) := by decide +kernel
theorem dW_365 : decode code 365 = .ok (.aload_n 3, 1) := by decide +kernel
theorem dW_366 : decode code 366 = .ok (.invokestatic 108, 3) := by decide +kernel
theorem dW_369 : decode code 369 = .ok (.istore 5, 2) := by decide +kernel
theorem dW_371 : decode code 371 = .ok (.aload_n 2, 1) := by decide +kernel
theorem dW_372 : decode code 372 = .ok (.aload_n 0, 1) := by decide +kernel
theorem dW_373 : decode code 373 = .ok (.iload 4, 2) := by decide +kernel
theorem dW_375 : decode code 375 = .ok (.iconst 1, 1) := by decide +kernel
theorem dW_376 : decode code 376 = .ok (.iadd, 1) := by decide +kernel
theorem dW_377 : decode code 377 = .ok (.iaload, 1) := by decide +kernel
theorem dW_378 : decode code 378 = .ok (.invokevirtual 110, 3) := by decide +kernel
theorem dW_381 : decode code 381 = .ok (.istore 6, 2) := by decide +kernel
theorem dW_383 : decode code 383 = .ok (.aload_n 2, 1) := by decide +kernel
theorem dW_384 : decode code 384 = .ok (.invokevirtual 88, 3) := by decide +kernel
theorem dW_387 : decode code 387 = .ok (.iload 5, 2) := by decide +kernel
theorem dW_389 : decode code 389 = .ok (.if_icmp .eq 5, 3) := by decide +kernel
theorem dW_392 : decode code 392 = .ok (.iconst 0, 1) := by decide +kernel
theorem dW_393 : decode code 393 = .ok (.ireturn, 1) := by decide +kernel
theorem dW_394 : decode code 394 = .ok (.iload 5, 2) := by decide +kernel
theorem dW_396 : decode code 396 = .ok (.ifCond .ne 15, 3) := by decide +kernel
theorem dW_399 : decode code 399 = .ok (.aload_n 3, 1) := by decide +kernel
theorem dW_400 : decode code 400 = .ok (.iconst 0, 1) := by decide +kernel
theorem dW_401 : decode code 401 = .ok (.laload, 1) := by decide +kernel
theorem dW_402 : decode code 402 = .ok (.iload 6, 2) := by decide +kernel
theorem dW_404 : decode code 404 = .ok (.i2l, 1) := by decide +kernel
theorem dW_405 : decode code 405 = .ok (.lcmp, 1) := by decide +kernel
theorem dW_406 : decode code 406 = .ok (.ifCond .eq 5, 3) := by decide +kernel
theorem dW_409 : decode code 409 = .ok (.iconst 0, 1) := by decide +kernel
theorem dW_410 : decode code 410 = .ok (.ireturn, 1) := by decide +kernel
theorem dW_411 : decode code 411 = .ok (.goto 932, 3) := by decide +kernel
theorem dW_414 : decode code 414 = .ok (.aload_n 1, 1) := by decide +kernel
theorem dW_415 : decode code 415 = .ok (.aload_n 0, 1) := by decide +kernel
theorem dW_416 : decode code 416 = .ok (.iload 4, 2) := by decide +kernel
theorem dW_418 : decode code 418 = .ok (.iconst 1, 1) := by decide +kernel
theorem dW_419 : decode code 419 = .ok (.iadd, 1) := by decide +kernel
theorem dW_420 : decode code 420 = .ok (.iaload, 1) := by decide +kernel
theorem dW_421 : decode code 421 = .ok (.aload_n 3, 1) := by decide +kernel
theorem dW_422 : decode code 422 = .ok (.invokestatic 111, 3) := by decide +kernel
theorem dW_425 : decode code 425 = .ok (.istore 5, 2) := by decide +kernel
theorem dW_427 : decode code 427 = .ok (.aload_n 2, 1) := by decide +kernel
theorem dW_428 : decode code 428 = .ok (.aload_n 0, 1) := by decide +kernel
theorem dW_429 : decode code 429 = .ok (.iload 4, 2) := by decide +kernel
theorem dW_431 : decode code 431 = .ok (.iconst 1, 1) := by decide +kernel
theorem dW_432 : decode code 432 = .ok (.iadd, 1) := by decide +kernel
theorem dW_433 : decode code 433 = .ok (.iaload, 1) := by decide +kernel
theorem dW_434 : decode code 434 = .ok (.invokevirtual 113, 3) := by decide +kernel
theorem dW_437 : decode code 437 = .ok (.istore 6, 2) := by decide +kernel
theorem dW_439 : decode code 439 = .ok (.aload_n 2, 1) := by decide +kernel
theorem dW_440 : decode code 440 = .ok (.invokevirtual 88, 3) := by decide +kernel
theorem dW_443 : decode code 443 = .ok (.iload 5, 2) := by decide +kernel
theorem dW_445 : decode code 445 = .ok (.if_icmp .eq 5, 3) := by decide +kernel
theorem dW_448 : decode code 448 = .ok (.iconst 0, 1) := by decide +kernel
theorem dW_449 : decode code 449 = .ok (.ireturn, 1) := by decide +kernel
theorem dW_450 : decode code 450 = .ok (.iload 5, 2) := by decide +kernel
theorem dW_452 : decode code 452 = .ok (.ifCond .ne 15, 3) := by decide +kernel
theorem dW_455 : decode code 455 = .ok (.aload_n 3, 1) := by decide +kernel
theorem dW_456 : decode code 456 = .ok (.iconst 0, 1) := by decide +kernel
theorem dW_457 : decode code 457 = .ok (.laload, 1) := by decide +kernel
theorem dW_458 : decode code 458 = .ok (.iload 6, 2) := by decide +kernel
theorem dW_460 : decode code 460 = .ok (.i2l, 1) := by decide +kernel
theorem dW_461 : decode code 461 = .ok (.lcmp, 1) := by decide +kernel
theorem dW_462 : decode code 462 = .ok (.ifCond .eq 5, 3) := by decide +kernel
theorem dW_465 : decode code 465 = .ok (.iconst 0, 1) := by decide +kernel
theorem dW_466 : decode code 466 = .ok (.ireturn, 1) := by decide +kernel
theorem dW_467 : decode code 467 = .ok (.goto 876, 3) := by decide +kernel
theorem dW_470 : decode code 470 = .ok (.aload_n 1, 1) := by decide +kernel
theorem dW_471 : decode code 471 = .ok (.aload_n 0, 1) := by decide +kernel
theorem dW_472 : decode code 472 = .ok (.iload 4, 2) := by decide +kernel
theorem dW_474 : decode code 474 = .ok (.iconst 1, 1) := by decide +kernel
theorem dW_475 : decode code 475 = .ok (.iadd, 1) := by decide +kernel
theorem dW_476 : decode code 476 = .ok (.iaload, 1) := by decide +kernel
theorem dW_477 : decode code 477 = .ok (.aload_n 3, 1) := by decide +kernel
theorem dW_478 : decode code 478 = .ok (.invokestatic 114, 3) := by decide +kernel
theorem dW_481 : decode code 481 = .ok (.istore 5, 2) := by decide +kernel
theorem dW_483 : decode code 483 = .ok (.aload_n 2, 1) := by decide +kernel
theorem dW_484 : decode code 484 = .ok (.aload_n 0, 1) := by decide +kernel
theorem dW_485 : decode code 485 = .ok (.iload 4, 2) := by decide +kernel
theorem dW_487 : decode code 487 = .ok (.iconst 1, 1) := by decide +kernel
theorem dW_488 : decode code 488 = .ok (.iadd, 1) := by decide +kernel
theorem dW_489 : decode code 489 = .ok (.iaload, 1) := by decide +kernel
theorem dW_490 : decode code 490 = .ok (.invokevirtual 116, 3) := by decide +kernel
theorem dW_493 : decode code 493 = .ok (.istore 6, 2) := by decide +kernel
theorem dW_495 : decode code 495 = .ok (.aload_n 2, 1) := by decide +kernel
theorem dW_496 : decode code 496 = .ok (.invokevirtual 88, 3) := by decide +kernel
theorem dW_499 : decode code 499 = .ok (.iload 5, 2) := by decide +kernel
theorem dW_501 : decode code 501 = .ok (.if_icmp .eq 5, 3) := by decide +kernel
theorem dW_504 : decode code 504 = .ok (.iconst 0, 1) := by decide +kernel
theorem dW_505 : decode code 505 = .ok (.ireturn, 1) := by decide +kernel
theorem dW_506 : decode code 506 = .ok (.iload 5, 2) := by decide +kernel
theorem dW_508 : decode code 508 = .ok (.ifCond .ne 22, 3) := by decide +kernel
theorem dW_511 : decode code 511 = .ok (.aload_n 3, 1) := by decide +kernel
theorem dW_512 : decode code 512 = .ok (.iconst 0, 1) := by decide +kernel
theorem dW_513 : decode code 513 = .ok (.laload, 1) := by decide +kernel
theorem dW_514 : decode code 514 = .ok (.iload 6, 2) := by decide +kernel
theorem dW_516 : decode code 516 = .ok (.ifCond .eq 7, 3) := by decide +kernel
theorem dW_519 : decode code 519 = .ok (.lconst 1, 1) := by decide +kernel
theorem dW_520 : decode code 520 = .ok (.goto 4, 3) := by decide +kernel
theorem dW_523 : decode code 523 = .ok (.lconst 0, 1) := by decide +kernel
theorem dW_524 : decode code 524 = .ok (.lcmp, 1) := by decide +kernel
theorem dW_525 : decode code 525 = .ok (.ifCond .eq 5, 3) := by decide +kernel
theorem dW_528 : decode code 528 = .ok (.iconst 0, 1) := by decide +kernel
theorem dW_529 : decode code 529 = .ok (.ireturn, 1) := by decide +kernel
theorem dW_530 : decode code 530 = .ok (.goto 813, 3) := by decide +kernel
theorem dW_533 : decode code 533 = .ok (.aload_n 1, 1) := by decide +kernel
theorem dW_534 : decode code 534 = .ok (.aload_n 0, 1) := by decide +kernel
theorem dW_535 : decode code 535 = .ok (.iload 4, 2) := by decide +kernel
theorem dW_537 : decode code 537 = .ok (.iconst 1, 1) := by decide +kernel
theorem dW_538 : decode code 538 = .ok (.iadd, 1) := by decide +kernel
theorem dW_539 : decode code 539 = .ok (.iaload, 1) := by decide +kernel
theorem dW_540 : decode code 540 = .ok (.aload_n 3, 1) := by decide +kernel
theorem dW_541 : decode code 541 = .ok (.invokestatic 117, 3) := by decide +kernel
theorem dW_544 : decode code 544 = .ok (.istore 5, 2) := by decide +kernel
theorem dW_546 : decode code 546 = .ok (.aload_n 2, 1) := by decide +kernel
theorem dW_547 : decode code 547 = .ok (.aload_n 0, 1) := by decide +kernel
theorem dW_548 : decode code 548 = .ok (.iload 4, 2) := by decide +kernel
theorem dW_550 : decode code 550 = .ok (.iconst 1, 1) := by decide +kernel
theorem dW_551 : decode code 551 = .ok (.iadd, 1) := by decide +kernel
theorem dW_552 : decode code 552 = .ok (.iaload, 1) := by decide +kernel
theorem dW_553 : decode code 553 = .ok (.invokevirtual 119, 3) := by decide +kernel
theorem dW_556 : decode code 556 = .ok (.istore 6, 2) := by decide +kernel
theorem dW_558 : decode code 558 = .ok (.aload_n 2, 1) := by decide +kernel
theorem dW_559 : decode code 559 = .ok (.invokevirtual 88, 3) := by decide +kernel
theorem dW_562 : decode code 562 = .ok (.iload 5, 2) := by decide +kernel
theorem dW_564 : decode code 564 = .ok (.if_icmp .eq 5, 3) := by decide +kernel
theorem dW_567 : decode code 567 = .ok (.iconst 0, 1) := by decide +kernel
theorem dW_568 : decode code 568 = .ok (.ireturn, 1) := by decide +kernel
theorem dW_569 : decode code 569 = .ok (.iload 5, 2) := by decide +kernel
theorem dW_571 : decode code 571 = .ok (.ifCond .ne 15, 3) := by decide +kernel
theorem dW_574 : decode code 574 = .ok (.aload_n 3, 1) := by decide +kernel
theorem dW_575 : decode code 575 = .ok (.iconst 0, 1) := by decide +kernel
theorem dW_576 : decode code 576 = .ok (.laload, 1) := by decide +kernel
theorem dW_577 : decode code 577 = .ok (.iload 6, 2) := by decide +kernel
theorem dW_579 : decode code 579 = .ok (.i2l, 1) := by decide +kernel
theorem dW_580 : decode code 580 = .ok (.lcmp, 1) := by decide +kernel
theorem dW_581 : decode code 581 = .ok (.ifCond .eq 5, 3) := by decide +kernel
theorem dW_584 : decode code 584 = .ok (.iconst 0, 1) := by decide +kernel
theorem dW_585 : decode code 585 = .ok (.ireturn, 1) := by decide +kernel
theorem dW_586 : decode code 586 = .ok (.goto 757, 3) := by decide +kernel
theorem dW_589 : decode code 589 = .ok (.aload_n 1, 1) := by decide +kernel
theorem dW_590 : decode code 590 = .ok (.aload_n 0, 1) := by decide +kernel
theorem dW_591 : decode code 591 = .ok (.iload 4, 2) := by decide +kernel
theorem dW_593 : decode code 593 = .ok (.iconst 1, 1) := by decide +kernel
theorem dW_594 : decode code 594 = .ok (.iadd, 1) := by decide +kernel
theorem dW_595 : decode code 595 = .ok (.iaload, 1) := by decide +kernel
theorem dW_596 : decode code 596 = .ok (.aload_n 0, 1) := by decide +kernel
theorem dW_597 : decode code 597 = .ok (.iload 4, 2) := by decide +kernel
theorem dW_599 : decode code 599 = .ok (.iconst 2, 1) := by decide +kernel
theorem dW_600 : decode code 600 = .ok (.iadd, 1) := by decide +kernel
theorem dW_601 : decode code 601 = .ok (.iaload, 1) := by decide +kernel
theorem dW_602 : decode code 602 = .ok (.aload_n 3, 1) := by decide +kernel
theorem dW_603 : decode code 603 = .ok (.invokestatic 120, 3) := by decide +kernel
theorem dW_606 : decode code 606 = .ok (.istore 5, 2) := by decide +kernel
theorem dW_608 : decode code 608 = .ok (.aload_n 2, 1) := by decide +kernel
theorem dW_609 : decode code 609 = .ok (.aload_n 0, 1) := by decide +kernel
theorem dW_610 : decode code 610 = .ok (.iload 4, 2) := by decide +kernel
theorem dW_612 : decode code 612 = .ok (.iconst 1, 1) := by decide +kernel
theorem dW_613 : decode code 613 = .ok (.iadd, 1) := by decide +kernel
theorem dW_614 : decode code 614 = .ok (.iaload, 1) := by decide +kernel
theorem dW_615 : decode code 615 = .ok (.aload_n 0, 1) := by decide +kernel
theorem dW_616 : decode code 616 = .ok (.iload 4, 2) := by decide +kernel
theorem dW_618 : decode code 618 = .ok (.iconst 2, 1) := by decide +kernel
theorem dW_619 : decode code 619 = .ok (.iadd, 1) := by decide +kernel
theorem dW_620 : decode code 620 = .ok (.iaload, 1) := by decide +kernel
theorem dW_621 : decode code 621 = .ok (.invokevirtual 123, 3) := by decide +kernel
theorem dW_624 : decode code 624 = .ok (.istore 6, 2) := by decide +kernel
theorem dW_626 : decode code 626 = .ok (.aload_n 2, 1) := by decide +kernel
theorem dW_627 : decode code 627 = .ok (.invokevirtual 88, 3) := by decide +kernel
theorem dW_630 : decode code 630 = .ok (.iload 5, 2) := by decide +kernel
theorem dW_632 : decode code 632 = .ok (.if_icmp .eq 5, 3) := by decide +kernel
theorem dW_635 : decode code 635 = .ok (.iconst 0, 1) := by decide +kernel
theorem dW_636 : decode code 636 = .ok (.ireturn, 1) := by decide +kernel
theorem dW_637 : decode code 637 = .ok (.iload 5, 2) := by decide +kernel
theorem dW_639 : decode code 639 = .ok (.ifCond .ne 22, 3) := by decide +kernel
theorem dW_642 : decode code 642 = .ok (.aload_n 3, 1) := by decide +kernel
theorem dW_643 : decode code 643 = .ok (.iconst 0, 1) := by decide +kernel
theorem dW_644 : decode code 644 = .ok (.laload, 1) := by decide +kernel
theorem dW_645 : decode code 645 = .ok (.iload 6, 2) := by decide +kernel
theorem dW_647 : decode code 647 = .ok (.ifCond .eq 7, 3) := by decide +kernel
theorem dW_650 : decode code 650 = .ok (.lconst 1, 1) := by decide +kernel
theorem dW_651 : decode code 651 = .ok (.goto 4, 3) := by decide +kernel
theorem dW_654 : decode code 654 = .ok (.lconst 0, 1) := by decide +kernel
theorem dW_655 : decode code 655 = .ok (.lcmp, 1) := by decide +kernel
theorem dW_656 : decode code 656 = .ok (.ifCond .eq 5, 3) := by decide +kernel
theorem dW_659 : decode code 659 = .ok (.iconst 0, 1) := by decide +kernel
theorem dW_660 : decode code 660 = .ok (.ireturn, 1) := by decide +kernel
theorem dW_661 : decode code 661 = .ok (.goto 682, 3) := by decide +kernel
theorem dW_664 : decode code 664 = .ok (.aload_n 1, 1) := by decide +kernel
theorem dW_665 : decode code 665 = .ok (.aload_n 0, 1) := by decide +kernel
theorem dW_666 : decode code 666 = .ok (.iload 4, 2) := by decide +kernel
theorem dW_668 : decode code 668 = .ok (.iconst 1, 1) := by decide +kernel
theorem dW_669 : decode code 669 = .ok (.iadd, 1) := by decide +kernel
theorem dW_670 : decode code 670 = .ok (.iaload, 1) := by decide +kernel
theorem dW_671 : decode code 671 = .ok (.aload_n 0, 1) := by decide +kernel
theorem dW_672 : decode code 672 = .ok (.iload 4, 2) := by decide +kernel
theorem dW_674 : decode code 674 = .ok (.iconst 2, 1) := by decide +kernel
theorem dW_675 : decode code 675 = .ok (.iadd, 1) := by decide +kernel
theorem dW_676 : decode code 676 = .ok (.iaload, 1) := by decide +kernel
theorem dW_677 : decode code 677 = .ok (.aload_n 3, 1) := by decide +kernel
theorem dW_678 : decode code 678 = .ok (.invokestatic 124, 3) := by decide +kernel
theorem dW_681 : decode code 681 = .ok (.istore 5, 2) := by decide +kernel
theorem dW_683 : decode code 683 = .ok (.aload_n 2, 1) := by decide +kernel
theorem dW_684 : decode code 684 = .ok (.aload_n 0, 1) := by decide +kernel
theorem dW_685 : decode code 685 = .ok (.iload 4, 2) := by decide +kernel
theorem dW_687 : decode code 687 = .ok (.iconst 1, 1) := by decide +kernel
theorem dW_688 : decode code 688 = .ok (.iadd, 1) := by decide +kernel
theorem dW_689 : decode code 689 = .ok (.iaload, 1) := by decide +kernel
theorem dW_690 : decode code 690 = .ok (.aload_n 0, 1) := by decide +kernel
theorem dW_691 : decode code 691 = .ok (.iload 4, 2) := by decide +kernel
theorem dW_693 : decode code 693 = .ok (.iconst 2, 1) := by decide +kernel
theorem dW_694 : decode code 694 = .ok (.iadd, 1) := by decide +kernel
theorem dW_695 : decode code 695 = .ok (.iaload, 1) := by decide +kernel
theorem dW_696 : decode code 696 = .ok (.invokevirtual 126, 3) := by decide +kernel
theorem dW_699 : decode code 699 = .ok (.istore 6, 2) := by decide +kernel
theorem dW_701 : decode code 701 = .ok (.aload_n 2, 1) := by decide +kernel
theorem dW_702 : decode code 702 = .ok (.invokevirtual 88, 3) := by decide +kernel
theorem dW_705 : decode code 705 = .ok (.iload 5, 2) := by decide +kernel
theorem dW_707 : decode code 707 = .ok (.if_icmp .eq 5, 3) := by decide +kernel
theorem dW_710 : decode code 710 = .ok (.iconst 0, 1) := by decide +kernel
theorem dW_711 : decode code 711 = .ok (.ireturn, 1) := by decide +kernel
theorem dW_712 : decode code 712 = .ok (.iload 5, 2) := by decide +kernel
theorem dW_714 : decode code 714 = .ok (.ifCond .ne 22, 3) := by decide +kernel
theorem dW_717 : decode code 717 = .ok (.aload_n 3, 1) := by decide +kernel
theorem dW_718 : decode code 718 = .ok (.iconst 0, 1) := by decide +kernel
theorem dW_719 : decode code 719 = .ok (.laload, 1) := by decide +kernel
theorem dW_720 : decode code 720 = .ok (.iload 6, 2) := by decide +kernel
theorem dW_722 : decode code 722 = .ok (.ifCond .eq 7, 3) := by decide +kernel
theorem dW_725 : decode code 725 = .ok (.lconst 1, 1) := by decide +kernel
