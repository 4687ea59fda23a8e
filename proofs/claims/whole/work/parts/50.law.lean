/-! THE CLAIM OUT OF ONE WALK OF THE LAW'S BODY. Your part is whole_start (and what it stands on); all else here is the same for every law, but numbers. -/
def R_law : String := "PartHouseLaw"
def lw_P (b : Addr) (xs : List Int32) (args : Array Value) (s : State) : Prop := args = #[.ref b] ∧ s.IntsAt b xs ∧ xs.length ≤ 320 ∧ (Jvm.Cond.and given_1 narrow_1).before args s = true
def lw_Q (_ : Array Value) (s : State) (o : Outcome) (t : State) : Prop := o = .returned (some (.int 1)) ∧ Framed s o t [] 600000 7302250
def lw_Z (below : List Frame) (a : Array Value) (s : State) : State → Prop := fun t => ∃ o, t.status = .running ∧ Ended t below o ∧ lw_Q a s o t
/-- the law's own end, with 1 on the stack, nothing written that was there before, its room as the claim has it -/
theorem lw_ret {p : Program} {l : Launch} {e : Env} {s : State} {m : MethodId} {below : List Frame} {meth : Method} {c : Code} {b : Nat} (hx : p.tables.exec = Jvm.exec) (hb : c.code = code) (hr : meth.sig.returnType = ret) (hlocks : meth.locks = false) {pc : Nat} {H : Heap} {ls : Array Slot} (hdg : decode code pc = .ok (.ireturn, 1)) : W p l e room_1 s m #[Value.ref b] below meth c H [] 600000 7302250 (lw_Z below #[Value.ref b] s) (F0 m pc ls [.int 1]) := by
  intro T hT X
  obtain ⟨fs, hret, hrun, hended, hW, hframe⟩ := X.leave (v := some (.int 1)) (hlocks := hlocks) (fun h => by rw [hr] at h; cases h)
  have hmeth' : T.vm.method? m = some meth := X.method'
  refine ⟨T.setFrames fs, ?_, .returned (some (.int 1)), hrun, hended, rfl, ⟨_, rfl⟩, hW, hframe⟩
  jvm_step X.here [X.here.top, hx, hb, hdg, hmeth', hr, ret, narrow_b1]
  (try refine ⟨rfl, ?_⟩); (try refine ⟨rfl, ?_⟩)
  first | (intro acts; rw [hret _ acts rfl rfl rfl]) | rw [hret _ _ rfl rfl rfl]
  exact Steps.refl _
/-- what holds at the law's entry: the machine, the code, the tables' words (any of lw_tbl by 'hts w (by decide +kernel)'), the script of L ints xs at the cell b, what the Statement gives of the start (any of its parts by flat_of_before) -/
def lw_At (p : Program) (s : State) (m : MethodId) (meth : Method) (c : Code) (b L : Nat) (xs : Nat → Int32) : Prop :=
  p.tables.exec = Jvm.exec ∧ c.code = code ∧ meth.sig.returnType = ret ∧ c.maxLocals = 4 ∧ s.vm.findClass R_law = some m.cls ∧ (∀ w ∈ lw_tbl, w.before #[Value.ref b] s = true) ∧ va_X b L xs s s.heap ∧ b < s.heap.size ∧ meth.locks = false ∧ (Jvm.Cond.and given_1 narrow_1).before #[Value.ref b] s = true

theorem dL_law_0 : decode code 0 = .ok (.new 7, 3) := by decide +kernel
theorem dL_law_3 : decode code 3 = .ok (.dup, 1) := by decide +kernel
theorem dL_law_4 : decode code 4 = .ok (.invokespecial 9, 3) := by decide +kernel
theorem dL_law_7 : decode code 7 = .ok (.astore_n 1, 1) := by decide +kernel
theorem dL_law_8 : decode code 8 = .ok (.new 10, 3) := by decide +kernel
theorem dL_law_11 : decode code 11 = .ok (.dup, 1) := by decide +kernel
theorem dL_law_12 : decode code 12 = .ok (.invokespecial 12, 3) := by decide +kernel
theorem dL_law_15 : decode code 15 = .ok (.astore_n 2, 1) := by decide +kernel
theorem dL_law_16 : decode code 16 = .ok (.iconst 0, 1) := by decide +kernel
theorem dL_law_17 : decode code 17 = .ok (.istore_n 3, 1) := by decide +kernel
theorem dL_law_18 : decode code 18 = .ok (.iload_n 3, 1) := by decide +kernel
theorem dL_law_19 : decode code 19 = .ok (.aload_n 0, 1) := by decide +kernel
theorem dL_law_20 : decode code 20 = .ok (.arraylength, 1) := by decide +kernel
theorem dL_law_21 : decode code 21 = .ok (.iconst 5, 1) := by decide +kernel
theorem dL_law_22 : decode code 22 = .ok (.isub, 1) := by decide +kernel
theorem dL_law_23 : decode code 23 = .ok (.if_icmp .gt 1209, 3) := by decide +kernel
theorem dL_law_26 : decode code 26 = .ok (.aload_n 0, 1) := by decide +kernel
theorem dL_law_27 : decode code 27 = .ok (.iload_n 3, 1) := by decide +kernel
theorem dL_law_28 : decode code 28 = .ok (.iaload, 1) := by decide +kernel
theorem dL_law_29 : decode code 29 = .ok (.bipush 63, 2) := by decide +kernel
theorem dL_law_31 : decode code 31 = .ok (.iand, 1) := by decide +kernel
theorem dL_law_32 : decode code 32 = .ok (.tableswitch 1194 0 33 #[152, 215, 228, 241, 294, 317, 340, 363, 386, 409, 442, 455, 468, 491, 514, 547, 580, 623, 656, 689, 722, 755, 788, 831, 884, 927, 950, 973, 996, 1029, 1062, 1115, 1148, 1171], 152) := by decide +kernel
theorem dL_law_184 : decode code 184 = .ok (.aload_n 1, 1) := by decide +kernel
theorem dL_law_185 : decode code 185 = .ok (.aload_n 0, 1) := by decide +kernel
theorem dL_law_186 : decode code 186 = .ok (.iload_n 3, 1) := by decide +kernel
theorem dL_law_187 : decode code 187 = .ok (.iconst 1, 1) := by decide +kernel
theorem dL_law_188 : decode code 188 = .ok (.iadd, 1) := by decide +kernel
theorem dL_law_189 : decode code 189 = .ok (.iaload, 1) := by decide +kernel
theorem dL_law_190 : decode code 190 = .ok (.i2l, 1) := by decide +kernel
theorem dL_law_191 : decode code 191 = .ok (.bipush 32, 2) := by decide +kernel
theorem dL_law_193 : decode code 193 = .ok (.lshl, 1) := by decide +kernel
theorem dL_law_194 : decode code 194 = .ok (.aload_n 0, 1) := by decide +kernel
theorem dL_law_195 : decode code 195 = .ok (.iload_n 3, 1) := by decide +kernel
theorem dL_law_196 : decode code 196 = .ok (.iconst 2, 1) := by decide +kernel
theorem dL_law_197 : decode code 197 = .ok (.iadd, 1) := by decide +kernel
theorem dL_law_198 : decode code 198 = .ok (.iaload, 1) := by decide +kernel
theorem dL_law_199 : decode code 199 = .ok (.i2l, 1) := by decide +kernel
theorem dL_law_200 : decode code 200 = .ok (.ldc2_w 13, 3) := by decide +kernel
theorem dL_law_203 : decode code 203 = .ok (.land, 1) := by decide +kernel
theorem dL_law_204 : decode code 204 = .ok (.lor, 1) := by decide +kernel
theorem dL_law_205 : decode code 205 = .ok (.aload_n 0, 1) := by decide +kernel
theorem dL_law_206 : decode code 206 = .ok (.iload_n 3, 1) := by decide +kernel
theorem dL_law_207 : decode code 207 = .ok (.iconst 3, 1) := by decide +kernel
theorem dL_law_208 : decode code 208 = .ok (.iadd, 1) := by decide +kernel
theorem dL_law_209 : decode code 209 = .ok (.iaload, 1) := by decide +kernel
theorem dL_law_210 : decode code 210 = .ok (.invokevirtual 15, 3) := by decide +kernel
theorem dL_law_213 : decode code 213 = .ok (.aload_n 2, 1) := by decide +kernel
theorem dL_law_214 : decode code 214 = .ok (.aload_n 0, 1) := by decide +kernel
theorem dL_law_215 : decode code 215 = .ok (.iload_n 3, 1) := by decide +kernel
theorem dL_law_216 : decode code 216 = .ok (.iconst 1, 1) := by decide +kernel
theorem dL_law_217 : decode code 217 = .ok (.iadd, 1) := by decide +kernel
theorem dL_law_218 : decode code 218 = .ok (.iaload, 1) := by decide +kernel
theorem dL_law_219 : decode code 219 = .ok (.i2l, 1) := by decide +kernel
theorem dL_law_220 : decode code 220 = .ok (.bipush 32, 2) := by decide +kernel
theorem dL_law_222 : decode code 222 = .ok (.lshl, 1) := by decide +kernel
theorem dL_law_223 : decode code 223 = .ok (.aload_n 0, 1) := by decide +kernel
theorem dL_law_224 : decode code 224 = .ok (.iload_n 3, 1) := by decide +kernel
theorem dL_law_225 : decode code 225 = .ok (.iconst 2, 1) := by decide +kernel
theorem dL_law_226 : decode code 226 = .ok (.iadd, 1) := by decide +kernel
theorem dL_law_227 : decode code 227 = .ok (.iaload, 1) := by decide +kernel
theorem dL_law_228 : decode code 228 = .ok (.i2l, 1) := by decide +kernel
theorem dL_law_229 : decode code 229 = .ok (.ldc2_w 13, 3) := by decide +kernel
theorem dL_law_232 : decode code 232 = .ok (.land, 1) := by decide +kernel
theorem dL_law_233 : decode code 233 = .ok (.lor, 1) := by decide +kernel
theorem dL_law_234 : decode code 234 = .ok (.aload_n 0, 1) := by decide +kernel
theorem dL_law_235 : decode code 235 = .ok (.iload_n 3, 1) := by decide +kernel
theorem dL_law_236 : decode code 236 = .ok (.iconst 3, 1) := by decide +kernel
theorem dL_law_237 : decode code 237 = .ok (.iadd, 1) := by decide +kernel
theorem dL_law_238 : decode code 238 = .ok (.iaload, 1) := by decide +kernel
theorem dL_law_239 : decode code 239 = .ok (.invokevirtual 19, 3) := by decide +kernel
theorem dL_law_242 : decode code 242 = .ok (.if_icmp .eq 984, 3) := by decide +kernel
theorem dL_law_245 : decode code 245 = .ok (.iconst 0, 1) := by decide +kernel
theorem dL_law_246 : decode code 246 = .ok (.ireturn, 1) := by decide +kernel
theorem dL_law_247 : decode code 247 = .ok (.aload_n 1, 1) := by decide +kernel
theorem dL_law_248 : decode code 248 = .ok (.invokevirtual 20, 3) := by decide +kernel
theorem dL_law_251 : decode code 251 = .ok (.aload_n 2, 1) := by decide +kernel
theorem dL_law_252 : decode code 252 = .ok (.invokevirtual 24, 3) := by decide +kernel
theorem dL_law_255 : decode code 255 = .ok (.if_icmp .eq 971, 3) := by decide +kernel
theorem dL_law_258 : decode code 258 = .ok (.iconst 0, 1) := by decide +kernel
theorem dL_law_259 : decode code 259 = .ok (.ireturn, 1) := by decide +kernel
theorem dL_law_260 : decode code 260 = .ok (.aload_n 1, 1) := by decide +kernel
theorem dL_law_261 : decode code 261 = .ok (.invokevirtual 25, 3) := by decide +kernel
theorem dL_law_264 : decode code 264 = .ok (.aload_n 2, 1) := by decide +kernel
theorem dL_law_265 : decode code 265 = .ok (.invokevirtual 28, 3) := by decide +kernel
theorem dL_law_268 : decode code 268 = .ok (.if_icmp .eq 958, 3) := by decide +kernel
theorem dL_law_271 : decode code 271 = .ok (.iconst 0, 1) := by decide +kernel
theorem dL_law_272 : decode code 272 = .ok (.ireturn, 1) := by decide +kernel
theorem dL_law_273 : decode code 273 = .ok (.aload_n 1, 1) := by decide +kernel
theorem dL_law_274 : decode code 274 = .ok (.aload_n 0, 1) := by decide +kernel
theorem dL_law_275 : decode code 275 = .ok (.iload_n 3, 1) := by decide +kernel
theorem dL_law_276 : decode code 276 = .ok (.iconst 1, 1) := by decide +kernel
theorem dL_law_277 : decode code 277 = .ok (.iadd, 1) := by decide +kernel
theorem dL_law_278 : decode code 278 = .ok (.iaload, 1) := by decide +kernel
theorem dL_law_279 : decode code 279 = .ok (.aload_n 0, 1) := by decide +kernel
theorem dL_law_280 : decode code 280 = .ok (.iload_n 3, 1) := by decide +kernel
theorem dL_law_281 : decode code 281 = .ok (.iconst 2, 1) := by decide +kernel
theorem dL_law_282 : decode code 282 = .ok (.iadd, 1) := by decide +kernel
theorem dL_law_283 : decode code 283 = .ok (.iaload, 1) := by decide +kernel
theorem dL_law_284 : decode code 284 = .ok (.aload_n 0, 1) := by decide +kernel
theorem dL_law_285 : decode code 285 = .ok (.iload_n 3, 1) := by decide +kernel
theorem dL_law_286 : decode code 286 = .ok (.iconst 3, 1) := by decide +kernel
theorem dL_law_287 : decode code 287 = .ok (.iadd, 1) := by decide +kernel
theorem dL_law_288 : decode code 288 = .ok (.iaload, 1) := by decide +kernel
theorem dL_law_289 : decode code 289 = .ok (.aload_n 0, 1) := by decide +kernel
theorem dL_law_290 : decode code 290 = .ok (.iload_n 3, 1) := by decide +kernel
theorem dL_law_291 : decode code 291 = .ok (.iconst 4, 1) := by decide +kernel
theorem dL_law_292 : decode code 292 = .ok (.iadd, 1) := by decide +kernel
theorem dL_law_293 : decode code 293 = .ok (.iaload, 1) := by decide +kernel
theorem dL_law_294 : decode code 294 = .ok (.invokevirtual 29, 3) := by decide +kernel
theorem dL_law_297 : decode code 297 = .ok (.aload_n 2, 1) := by decide +kernel
theorem dL_law_298 : decode code 298 = .ok (.aload_n 0, 1) := by decide +kernel
theorem dL_law_299 : decode code 299 = .ok (.iload_n 3, 1) := by decide +kernel
theorem dL_law_300 : decode code 300 = .ok (.iconst 1, 1) := by decide +kernel
theorem dL_law_301 : decode code 301 = .ok (.iadd, 1) := by decide +kernel
theorem dL_law_302 : decode code 302 = .ok (.iaload, 1) := by decide +kernel
theorem dL_law_303 : decode code 303 = .ok (.aload_n 0, 1) := by decide +kernel
theorem dL_law_304 : decode code 304 = .ok (.iload_n 3, 1) := by decide +kernel
theorem dL_law_305 : decode code 305 = .ok (.iconst 2, 1) := by decide +kernel
theorem dL_law_306 : decode code 306 = .ok (.iadd, 1) := by decide +kernel
theorem dL_law_307 : decode code 307 = .ok (.iaload, 1) := by decide +kernel
theorem dL_law_308 : decode code 308 = .ok (.aload_n 0, 1) := by decide +kernel
theorem dL_law_309 : decode code 309 = .ok (.iload_n 3, 1) := by decide +kernel
theorem dL_law_310 : decode code 310 = .ok (.iconst 3, 1) := by decide +kernel
theorem dL_law_311 : decode code 311 = .ok (.iadd, 1) := by decide +kernel
theorem dL_law_312 : decode code 312 = .ok (.iaload, 1) := by decide +kernel
theorem dL_law_313 : decode code 313 = .ok (.aload_n 0, 1) := by decide +kernel
theorem dL_law_314 : decode code 314 = .ok (.iload_n 3, 1) := by decide +kernel
theorem dL_law_315 : decode code 315 = .ok (.iconst 4, 1) := by decide +kernel
theorem dL_law_316 : decode code 316 = .ok (.iadd, 1) := by decide +kernel
theorem dL_law_317 : decode code 317 = .ok (.iaload, 1) := by decide +kernel
theorem dL_law_318 : decode code 318 = .ok (.invokevirtual 33, 3) := by decide +kernel
theorem dL_law_321 : decode code 321 = .ok (.if_icmp .eq 905, 3) := by decide +kernel
theorem dL_law_324 : decode code 324 = .ok (.iconst 0, 1) := by decide +kernel
theorem dL_law_325 : decode code 325 = .ok (.ireturn, 1) := by decide +kernel
theorem dL_law_326 : decode code 326 = .ok (.aload_n 1, 1) := by decide +kernel
theorem dL_law_327 : decode code 327 = .ok (.aload_n 0, 1) := by decide +kernel
theorem dL_law_328 : decode code 328 = .ok (.iload_n 3, 1) := by decide +kernel
theorem dL_law_329 : decode code 329 = .ok (.iconst 1, 1) := by decide +kernel
theorem dL_law_330 : decode code 330 = .ok (.iadd, 1) := by decide +kernel
theorem dL_law_331 : decode code 331 = .ok (.iaload, 1) := by decide +kernel
theorem dL_law_332 : decode code 332 = .ok (.invokevirtual 34, 3) := by decide +kernel
theorem dL_law_335 : decode code 335 = .ok (.aload_n 2, 1) := by decide +kernel
theorem dL_law_336 : decode code 336 = .ok (.aload_n 0, 1) := by decide +kernel
theorem dL_law_337 : decode code 337 = .ok (.iload_n 3, 1) := by decide +kernel
theorem dL_law_338 : decode code 338 = .ok (.iconst 1, 1) := by decide +kernel
theorem dL_law_339 : decode code 339 = .ok (.iadd, 1) := by decide +kernel
theorem dL_law_340 : decode code 340 = .ok (.iaload, 1) := by decide +kernel
theorem dL_law_341 : decode code 341 = .ok (.invokevirtual 38, 3) := by decide +kernel
theorem dL_law_344 : decode code 344 = .ok (.if_icmp .eq 882, 3) := by decide +kernel
theorem dL_law_347 : decode code 347 = .ok (.iconst 0, 1) := by decide +kernel
theorem dL_law_348 : decode code 348 = .ok (.ireturn, 1) := by decide +kernel
theorem dL_law_349 : decode code 349 = .ok (.aload_n 1, 1) := by decide +kernel
theorem dL_law_350 : decode code 350 = .ok (.aload_n 0, 1) := by decide +kernel
theorem dL_law_351 : decode code 351 = .ok (.iload_n 3, 1) := by decide +kernel
theorem dL_law_352 : decode code 352 = .ok (.iconst 1, 1) := by decide +kernel
theorem dL_law_353 : decode code 353 = .ok (.iadd, 1) := by decide +kernel
theorem dL_law_354 : decode code 354 = .ok (.iaload, 1) := by decide +kernel
theorem dL_law_355 : decode code 355 = .ok (.invokevirtual 39, 3) := by decide +kernel
theorem dL_law_358 : decode code 358 = .ok (.aload_n 2, 1) := by decide +kernel
theorem dL_law_359 : decode code 359 = .ok (.aload_n 0, 1) := by decide +kernel
theorem dL_law_360 : decode code 360 = .ok (.iload_n 3, 1) := by decide +kernel
theorem dL_law_361 : decode code 361 = .ok (.iconst 1, 1) := by decide +kernel
theorem dL_law_362 : decode code 362 = .ok (.iadd, 1) := by decide +kernel
theorem dL_law_363 : decode code 363 = .ok (.iaload, 1) := by decide +kernel
theorem dL_law_364 : decode code 364 = .ok (.invokevirtual 42, 3) := by decide +kernel
theorem dL_law_367 : decode code 367 = .ok (.if_icmp .eq 859, 3) := by decide +kernel
theorem dL_law_370 : decode code 370 = .ok (.iconst 0, 1) := by decide +kernel
theorem dL_law_371 : decode code 371 = .ok (.ireturn, 1) := by decide +kernel
theorem dL_law_372 : decode code 372 = .ok (.aload_n 1, 1) := by decide +kernel
theorem dL_law_373 : decode code 373 = .ok (.aload_n 0, 1) := by decide +kernel
theorem dL_law_374 : decode code 374 = .ok (.iload_n 3, 1) := by decide +kernel
theorem dL_law_375 : decode code 375 = .ok (.iconst 1, 1) := by decide +kernel
theorem dL_law_376 : decode code 376 = .ok (.iadd, 1) := by decide +kernel
theorem dL_law_377 : decode code 377 = .ok (.iaload, 1) := by decide +kernel
theorem dL_law_378 : decode code 378 = .ok (.invokevirtual 43, 3) := by decide +kernel
theorem dL_law_381 : decode code 381 = .ok (.aload_n 2, 1) := by decide +kernel
theorem dL_law_382 : decode code 382 = .ok (.aload_n 0, 1) := by decide +kernel
theorem dL_law_383 : decode code 383 = .ok (.iload_n 3, 1) := by decide +kernel
theorem dL_law_384 : decode code 384 = .ok (.iconst 1, 1) := by decide +kernel
theorem dL_law_385 : decode code 385 = .ok (.iadd, 1) := by decide +kernel
theorem dL_law_386 : decode code 386 = .ok (.iaload, 1) := by decide +kernel
theorem dL_law_387 : decode code 387 = .ok (.invokevirtual 46, 3) := by decide +kernel
theorem dL_law_390 : decode code 390 = .ok (.if_icmp .eq 836, 3) := by decide +kernel
theorem dL_law_393 : decode code 393 = .ok (.iconst 0, 1) := by decide +kernel
theorem dL_law_394 : decode code 394 = .ok (.ireturn, 1) := by decide +kernel
theorem dL_law_395 : decode code 395 = .ok (.aload_n 1, 1) := by decide +kernel
theorem dL_law_396 : decode code 396 = .ok (.aload_n 0, 1) := by decide +kernel
theorem dL_law_397 : decode code 397 = .ok (.iload_n 3, 1) := by decide +kernel
theorem dL_law_398 : decode code 398 = .ok (.iconst 1, 1) := by decide +kernel
theorem dL_law_399 : decode code 399 = .ok (.iadd, 1) := by decide +kernel
theorem dL_law_400 : decode code 400 = .ok (.iaload, 1) := by decide +kernel
theorem dL_law_401 : decode code 401 = .ok (.invokevirtual 47, 3) := by decide +kernel
theorem dL_law_404 : decode code 404 = .ok (.aload_n 2, 1) := by decide +kernel
theorem dL_law_405 : decode code 405 = .ok (.aload_n 0, 1) := by decide +kernel
theorem dL_law_406 : decode code 406 = .ok (.iload_n 3, 1) := by decide +kernel
theorem dL_law_407 : decode code 407 = .ok (.iconst 1, 1) := by decide +kernel
theorem dL_law_408 : decode code 408 = .ok (.iadd, 1) := by decide +kernel
theorem dL_law_409 : decode code 409 = .ok (.iaload, 1) := by decide +kernel
theorem dL_law_410 : decode code 410 = .ok (.invokevirtual 50, 3) := by decide +kernel
theorem dL_law_413 : decode code 413 = .ok (.if_icmp .eq 813, 3) := by decide +kernel
theorem dL_law_416 : decode code 416 = .ok (.iconst 0, 1) := by decide +kernel
theorem dL_law_417 : decode code 417 = .ok (.ireturn, 1) := by decide +kernel
theorem dL_law_418 : decode code 418 = .ok (.aload_n 1, 1) := by decide +kernel
theorem dL_law_419 : decode code 419 = .ok (.aload_n 0, 1) := by decide +kernel
theorem dL_law_420 : decode code 420 = .ok (.iload_n 3, 1) := by decide +kernel
theorem dL_law_421 : decode code 421 = .ok (.iconst 1, 1) := by decide +kernel
theorem dL_law_422 : decode code 422 = .ok (.iadd, 1) := by decide +kernel
theorem dL_law_423 : decode code 423 = .ok (.iaload, 1) := by decide +kernel
theorem dL_law_424 : decode code 424 = .ok (.invokevirtual 51, 3) := by decide +kernel
theorem dL_law_427 : decode code 427 = .ok (.aload_n 2, 1) := by decide +kernel
theorem dL_law_428 : decode code 428 = .ok (.aload_n 0, 1) := by decide +kernel
theorem dL_law_429 : decode code 429 = .ok (.iload_n 3, 1) := by decide +kernel
theorem dL_law_430 : decode code 430 = .ok (.iconst 1, 1) := by decide +kernel
theorem dL_law_431 : decode code 431 = .ok (.iadd, 1) := by decide +kernel
theorem dL_law_432 : decode code 432 = .ok (.iaload, 1) := by decide +kernel
theorem dL_law_433 : decode code 433 = .ok (.invokevirtual 54, 3) := by decide +kernel
theorem dL_law_436 : decode code 436 = .ok (.if_icmp .eq 790, 3) := by decide +kernel
theorem dL_law_439 : decode code 439 = .ok (.iconst 0, 1) := by decide +kernel
theorem dL_law_440 : decode code 440 = .ok (.ireturn, 1) := by decide +kernel
theorem dL_law_441 : decode code 441 = .ok (.aload_n 1, 1) := by decide +kernel
theorem dL_law_442 : decode code 442 = .ok (.aload_n 0, 1) := by decide +kernel
theorem dL_law_443 : decode code 443 = .ok (.iload_n 3, 1) := by decide +kernel
theorem dL_law_444 : decode code 444 = .ok (.iconst 1, 1) := by decide +kernel
theorem dL_law_445 : decode code 445 = .ok (.iadd, 1) := by decide +kernel
theorem dL_law_446 : decode code 446 = .ok (.iaload, 1) := by decide +kernel
theorem dL_law_447 : decode code 447 = .ok (.aload_n 0, 1) := by decide +kernel
theorem dL_law_448 : decode code 448 = .ok (.iload_n 3, 1) := by decide +kernel
theorem dL_law_449 : decode code 449 = .ok (.iconst 2, 1) := by decide +kernel
theorem dL_law_450 : decode code 450 = .ok (.iadd, 1) := by decide +kernel
theorem dL_law_451 : decode code 451 = .ok (.iaload, 1) := by decide +kernel
theorem dL_law_452 : decode code 452 = .ok (.invokevirtual 55, 3) := by decide +kernel
theorem dL_law_455 : decode code 455 = .ok (.aload_n 2, 1) := by decide +kernel
theorem dL_law_456 : decode code 456 = .ok (.aload_n 0, 1) := by decide +kernel
theorem dL_law_457 : decode code 457 = .ok (.iload_n 3, 1) := by decide +kernel
theorem dL_law_458 : decode code 458 = .ok (.iconst 1, 1) := by decide +kernel
theorem dL_law_459 : decode code 459 = .ok (.iadd, 1) := by decide +kernel
theorem dL_law_460 : decode code 460 = .ok (.iaload, 1) := by decide +kernel
theorem dL_law_461 : decode code 461 = .ok (.aload_n 0, 1) := by decide +kernel
theorem dL_law_462 : decode code 462 = .ok (.iload_n 3, 1) := by decide +kernel
theorem dL_law_463 : decode code 463 = .ok (.iconst 2, 1) := by decide +kernel
theorem dL_law_464 : decode code 464 = .ok (.iadd, 1) := by decide +kernel
theorem dL_law_465 : decode code 465 = .ok (.iaload, 1) := by decide +kernel
theorem dL_law_466 : decode code 466 = .ok (.invokevirtual 59, 3) := by decide +kernel
theorem dL_law_469 : decode code 469 = .ok (.if_icmp .eq 757, 3) := by decide +kernel
theorem dL_law_472 : decode code 472 = .ok (.iconst 0, 1) := by decide +kernel
theorem dL_law_473 : decode code 473 = .ok (.ireturn, 1) := by decide +kernel
theorem dL_law_474 : decode code 474 = .ok (.aload_n 1, 1) := by decide +kernel
theorem dL_law_475 : decode code 475 = .ok (.invokevirtual 60, 3) := by decide +kernel
theorem dL_law_478 : decode code 478 = .ok (.aload_n 2, 1) := by decide +kernel
theorem dL_law_479 : decode code 479 = .ok (.invokevirtual 63, 3) := by decide +kernel
theorem dL_law_482 : decode code 482 = .ok (.if_icmp .eq 744, 3) := by decide +kernel
theorem dL_law_485 : decode code 485 = .ok (.iconst 0, 1) := by decide +kernel
theorem dL_law_486 : decode code 486 = .ok (.ireturn, 1) := by decide +kernel
theorem dL_law_487 : decode code 487 = .ok (.aload_n 1, 1) := by decide +kernel
theorem dL_law_488 : decode code 488 = .ok (.invokevirtual 64, 3) := by decide +kernel
theorem dL_law_491 : decode code 491 = .ok (.aload_n 2, 1) := by decide +kernel
theorem dL_law_492 : decode code 492 = .ok (.invokevirtual 67, 3) := by decide +kernel
theorem dL_law_495 : decode code 495 = .ok (.if_icmp .eq 731, 3) := by decide +kernel
theorem dL_law_498 : decode code 498 = .ok (.iconst 0, 1) := by decide +kernel
theorem dL_law_499 : decode code 499 = .ok (.ireturn, 1) := by decide +kernel
theorem dL_law_500 : decode code 500 = .ok (.aload_n 1, 1) := by decide +kernel
theorem dL_law_501 : decode code 501 = .ok (.aload_n 0, 1) := by decide +kernel
theorem dL_law_502 : decode code 502 = .ok (.iload_n 3, 1) := by decide +kernel
theorem dL_law_503 : decode code 503 = .ok (.iconst 1, 1) := by decide +kernel
theorem dL_law_504 : decode code 504 = .ok (.iadd, 1) := by decide +kernel
theorem dL_law_505 : decode code 505 = .ok (.iaload, 1) := by decide +kernel
theorem dL_law_506 : decode code 506 = .ok (.invokevirtual 68, 3) := by decide +kernel
theorem dL_law_509 : decode code 509 = .ok (.aload_n 2, 1) := by decide +kernel
theorem dL_law_510 : decode code 510 = .ok (.aload_n 0, 1) := by decide +kernel
theorem dL_law_511 : decode code 511 = .ok (.iload_n 3, 1) := by decide +kernel
theorem dL_law_512 : decode code 512 = .ok (.iconst 1, 1) := by decide +kernel
theorem dL_law_513 : decode code 513 = .ok (.iadd, 1) := by decide +kernel
theorem dL_law_514 : decode code 514 = .ok (.iaload, 1) := by decide +kernel
theorem dL_law_515 : decode code 515 = .ok (.invokevirtual 71, 3) := by decide +kernel
theorem dL_law_518 : decode code 518 = .ok (.if_icmp .eq 708, 3) := by decide +kernel
theorem dL_law_521 : decode code 521 = .ok (.iconst 0, 1) := by decide +kernel
theorem dL_law_522 : decode code 522 = .ok (.ireturn, 1) := by decide +kernel
theorem dL_law_523 : decode code 523 = .ok (.aload_n 1, 1) := by decide +kernel
theorem dL_law_524 : decode code 524 = .ok (.aload_n 0, 1) := by decide +kernel
theorem dL_law_525 : decode code 525 = .ok (.iload_n 3, 1) := by decide +kernel
theorem dL_law_526 : decode code 526 = .ok (.iconst 1, 1) := by decide +kernel
theorem dL_law_527 : decode code 527 = .ok (.iadd, 1) := by decide +kernel
theorem dL_law_528 : decode code 528 = .ok (.iaload, 1) := by decide +kernel
theorem dL_law_529 : decode code 529 = .ok (.invokevirtual 72, 3) := by decide +kernel
theorem dL_law_532 : decode code 532 = .ok (.aload_n 2, 1) := by decide +kernel
theorem dL_law_533 : decode code 533 = .ok (.aload_n 0, 1) := by decide +kernel
theorem dL_law_534 : decode code 534 = .ok (.iload_n 3, 1) := by decide +kernel
theorem dL_law_535 : decode code 535 = .ok (.iconst 1, 1) := by decide +kernel
theorem dL_law_536 : decode code 536 = .ok (.iadd, 1) := by decide +kernel
theorem dL_law_537 : decode code 537 = .ok (.iaload, 1) := by decide +kernel
theorem dL_law_538 : decode code 538 = .ok (.invokevirtual 75, 3) := by decide +kernel
theorem dL_law_541 : decode code 541 = .ok (.if_icmp .eq 685, 3) := by decide +kernel
theorem dL_law_544 : decode code 544 = .ok (.iconst 0, 1) := by decide +kernel
theorem dL_law_545 : decode code 545 = .ok (.ireturn, 1) := by decide +kernel
theorem dL_law_546 : decode code 546 = .ok (.aload_n 1, 1) := by decide +kernel
theorem dL_law_547 : decode code 547 = .ok (.aload_n 0, 1) := by decide +kernel
theorem dL_law_548 : decode code 548 = .ok (.iload_n 3, 1) := by decide +kernel
theorem dL_law_549 : decode code 549 = .ok (.iconst 1, 1) := by decide +kernel
theorem dL_law_550 : decode code 550 = .ok (.iadd, 1) := by decide +kernel
theorem dL_law_551 : decode code 551 = .ok (.iaload, 1) := by decide +kernel
theorem dL_law_552 : decode code 552 = .ok (.aload_n 0, 1) := by decide +kernel
theorem dL_law_553 : decode code 553 = .ok (.iload_n 3, 1) := by decide +kernel
theorem dL_law_554 : decode code 554 = .ok (.iconst 2, 1) := by decide +kernel
theorem dL_law_555 : decode code 555 = .ok (.iadd, 1) := by decide +kernel
theorem dL_law_556 : decode code 556 = .ok (.iaload, 1) := by decide +kernel
theorem dL_law_557 : decode code 557 = .ok (.invokevirtual 76, 3) := by decide +kernel
theorem dL_law_560 : decode code 560 = .ok (.aload_n 2, 1) := by decide +kernel
theorem dL_law_561 : decode code 561 = .ok (.aload_n 0, 1) := by decide +kernel
theorem dL_law_562 : decode code 562 = .ok (.iload_n 3, 1) := by decide +kernel
theorem dL_law_563 : decode code 563 = .ok (.iconst 1, 1) := by decide +kernel
theorem dL_law_564 : decode code 564 = .ok (.iadd, 1) := by decide +kernel
theorem dL_law_565 : decode code 565 = .ok (.iaload, 1) := by decide +kernel
theorem dL_law_566 : decode code 566 = .ok (.aload_n 0, 1) := by decide +kernel
theorem dL_law_567 : decode code 567 = .ok (.iload_n 3, 1) := by decide +kernel
theorem dL_law_568 : decode code 568 = .ok (.iconst 2, 1) := by decide +kernel
theorem dL_law_569 : decode code 569 = .ok (.iadd, 1) := by decide +kernel
theorem dL_law_570 : decode code 570 = .ok (.iaload, 1) := by decide +kernel
theorem dL_law_571 : decode code 571 = .ok (.invokevirtual 79, 3) := by decide +kernel
theorem dL_law_574 : decode code 574 = .ok (.if_icmp .eq 652, 3) := by decide +kernel
theorem dL_law_577 : decode code 577 = .ok (.iconst 0, 1) := by decide +kernel
theorem dL_law_578 : decode code 578 = .ok (.ireturn, 1) := by decide +kernel
theorem dL_law_579 : decode code 579 = .ok (.aload_n 1, 1) := by decide +kernel
theorem dL_law_580 : decode code 580 = .ok (.aload_n 0, 1) := by decide +kernel
theorem dL_law_581 : decode code 581 = .ok (.iload_n 3, 1) := by decide +kernel
theorem dL_law_582 : decode code 582 = .ok (.iconst 1, 1) := by decide +kernel
theorem dL_law_583 : decode code 583 = .ok (.iadd, 1) := by decide +kernel
theorem dL_law_584 : decode code 584 = .ok (.iaload, 1) := by decide +kernel
theorem dL_law_585 : decode code 585 = .ok (.aload_n 0, 1) := by decide +kernel
theorem dL_law_586 : decode code 586 = .ok (.iload_n 3, 1) := by decide +kernel
theorem dL_law_587 : decode code 587 = .ok (.iconst 2, 1) := by decide +kernel
theorem dL_law_588 : decode code 588 = .ok (.iadd, 1) := by decide +kernel
theorem dL_law_589 : decode code 589 = .ok (.iaload, 1) := by decide +kernel
theorem dL_law_590 : decode code 590 = .ok (.invokevirtual 80, 3) := by decide +kernel
theorem dL_law_593 : decode code 593 = .ok (.aload_n 2, 1) := by decide +kernel
theorem dL_law_594 : decode code 594 = .ok (.aload_n 0, 1) := by decide +kernel
theorem dL_law_595 : decode code 595 = .ok (.iload_n 3, 1) := by decide +kernel
theorem dL_law_596 : decode code 596 = .ok (.iconst 1, 1) := by decide +kernel
theorem dL_law_597 : decode code 597 = .ok (.iadd, 1) := by decide +kernel
theorem dL_law_598 : decode code 598 = .ok (.iaload, 1) := by decide +kernel
theorem dL_law_599 : decode code 599 = .ok (.aload_n 0, 1) := by decide +kernel
theorem dL_law_600 : decode code 600 = .ok (.iload_n 3, 1) := by decide +kernel
theorem dL_law_601 : decode code 601 = .ok (.iconst 2, 1) := by decide +kernel
theorem dL_law_602 : decode code 602 = .ok (.iadd, 1) := by decide +kernel
theorem dL_law_603 : decode code 603 = .ok (.iaload, 1) := by decide +kernel
theorem dL_law_604 : decode code 604 = .ok (.invokevirtual 83, 3) := by decide +kernel
theorem dL_law_607 : decode code 607 = .ok (.if_icmp .eq 619, 3) := by decide +kernel
theorem dL_law_610 : decode code 610 = .ok (.iconst 0, 1) := by decide +kernel
theorem dL_law_611 : decode code 611 = .ok (.ireturn, 1) := by decide +kernel
theorem dL_law_612 : decode code 612 = .ok (.aload_n 1, 1) := by decide +kernel
theorem dL_law_613 : decode code 613 = .ok (.aload_n 0, 1) := by decide +kernel
theorem dL_law_614 : decode code 614 = .ok (.iload_n 3, 1) := by decide +kernel
theorem dL_law_615 : decode code 615 = .ok (.iconst 1, 1) := by decide +kernel
theorem dL_law_616 : decode code 616 = .ok (.iadd, 1) := by decide +kernel
theorem dL_law_617 : decode code 617 = .ok (.iaload, 1) := by decide +kernel
theorem dL_law_618 : decode code 618 = .ok (.aload_n 0, 1) := by decide +kernel
theorem dL_law_619 : decode code 619 = .ok (.iload_n 3, 1) := by decide +kernel
theorem dL_law_620 : decode code 620 = .ok (.iconst 2, 1) := by decide +kernel
theorem dL_law_621 : decode code 621 = .ok (.iadd, 1) := by decide +kernel
theorem dL_law_622 : decode code 622 = .ok (.iaload, 1) := by decide +kernel
theorem dL_law_623 : decode code 623 = .ok (.aload_n 0, 1) := by decide +kernel
theorem dL_law_624 : decode code 624 = .ok (.iload_n 3, 1) := by decide +kernel
theorem dL_law_625 : decode code 625 = .ok (.iconst 3, 1) := by decide +kernel
theorem dL_law_626 : decode code 626 = .ok (.iadd, 1) := by decide +kernel
theorem dL_law_627 : decode code 627 = .ok (.iaload, 1) := by decide +kernel
theorem dL_law_628 : decode code 628 = .ok (.invokevirtual 84, 3) := by decide +kernel
theorem dL_law_631 : decode code 631 = .ok (.aload_n 2, 1) := by decide +kernel
theorem dL_law_632 : decode code 632 = .ok (.aload_n 0, 1) := by decide +kernel
theorem dL_law_633 : decode code 633 = .ok (.iload_n 3, 1) := by decide +kernel
theorem dL_law_634 : decode code 634 = .ok (.iconst 1, 1) := by decide +kernel
theorem dL_law_635 : decode code 635 = .ok (.iadd, 1) := by decide +kernel
theorem dL_law_636 : decode code 636 = .ok (.iaload, 1) := by decide +kernel
theorem dL_law_637 : decode code 637 = .ok (.aload_n 0, 1) := by decide +kernel
theorem dL_law_638 : decode code 638 = .ok (.iload_n 3, 1) := by decide +kernel
theorem dL_law_639 : decode code 639 = .ok (.iconst 2, 1) := by decide +kernel
theorem dL_law_640 : decode code 640 = .ok (.iadd, 1) := by decide +kernel
theorem dL_law_641 : decode code 641 = .ok (.iaload, 1) := by decide +kernel
theorem dL_law_642 : decode code 642 = .ok (.aload_n 0, 1) := by decide +kernel
theorem dL_law_643 : decode code 643 = .ok (.iload_n 3, 1) := by decide +kernel
theorem dL_law_644 : decode code 644 = .ok (.iconst 3, 1) := by decide +kernel
theorem dL_law_645 : decode code 645 = .ok (.iadd, 1) := by decide +kernel
theorem dL_law_646 : decode code 646 = .ok (.iaload, 1) := by decide +kernel
theorem dL_law_647 : decode code 647 = .ok (.invokevirtual 88, 3) := by decide +kernel
theorem dL_law_650 : decode code 650 = .ok (.if_icmp .eq 576, 3) := by decide +kernel
theorem dL_law_653 : decode code 653 = .ok (.iconst 0, 1) := by decide +kernel
theorem dL_law_654 : decode code 654 = .ok (.ireturn, 1) := by decide +kernel
theorem dL_law_655 : decode code 655 = .ok (.aload_n 1, 1) := by decide +kernel
theorem dL_law_656 : decode code 656 = .ok (.aload_n 0, 1) := by decide +kernel
theorem dL_law_657 : decode code 657 = .ok (.iload_n 3, 1) := by decide +kernel
theorem dL_law_658 : decode code 658 = .ok (.iconst 1, 1) := by decide +kernel
theorem dL_law_659 : decode code 659 = .ok (.iadd, 1) := by decide +kernel
theorem dL_law_660 : decode code 660 = .ok (.iaload, 1) := by decide +kernel
theorem dL_law_661 : decode code 661 = .ok (.aload_n 0, 1) := by decide +kernel
theorem dL_law_662 : decode code 662 = .ok (.iload_n 3, 1) := by decide +kernel
theorem dL_law_663 : decode code 663 = .ok (.iconst 2, 1) := by decide +kernel
theorem dL_law_664 : decode code 664 = .ok (.iadd, 1) := by decide +kernel
theorem dL_law_665 : decode code 665 = .ok (.iaload, 1) := by decide +kernel
theorem dL_law_666 : decode code 666 = .ok (.invokevirtual 89, 3) := by decide +kernel
theorem dL_law_669 : decode code 669 = .ok (.aload_n 2, 1) := by decide +kernel
theorem dL_law_670 : decode code 670 = .ok (.aload_n 0, 1) := by decide +kernel
theorem dL_law_671 : decode code 671 = .ok (.iload_n 3, 1) := by decide +kernel
theorem dL_law_672 : decode code 672 = .ok (.iconst 1, 1) := by decide +kernel
theorem dL_law_673 : decode code 673 = .ok (.iadd, 1) := by decide +kernel
theorem dL_law_674 : decode code 674 = .ok (.iaload, 1) := by decide +kernel
theorem dL_law_675 : decode code 675 = .ok (.aload_n 0, 1) := by decide +kernel
theorem dL_law_676 : decode code 676 = .ok (.iload_n 3, 1) := by decide +kernel
theorem dL_law_677 : decode code 677 = .ok (.iconst 2, 1) := by decide +kernel
theorem dL_law_678 : decode code 678 = .ok (.iadd, 1) := by decide +kernel
theorem dL_law_679 : decode code 679 = .ok (.iaload, 1) := by decide +kernel
theorem dL_law_680 : decode code 680 = .ok (.invokevirtual 92, 3) := by decide +kernel
theorem dL_law_683 : decode code 683 = .ok (.if_icmp .eq 543, 3) := by decide +kernel
theorem dL_law_686 : decode code 686 = .ok (.iconst 0, 1) := by decide +kernel
theorem dL_law_687 : decode code 687 = .ok (.ireturn, 1) := by decide +kernel
theorem dL_law_688 : decode code 688 = .ok (.aload_n 1, 1) := by decide +kernel
theorem dL_law_689 : decode code 689 = .ok (.aload_n 0, 1) := by decide +kernel
theorem dL_law_690 : decode code 690 = .ok (.iload_n 3, 1) := by decide +kernel
theorem dL_law_691 : decode code 691 = .ok (.iconst 1, 1) := by decide +kernel
theorem dL_law_692 : decode code 692 = .ok (.iadd, 1) := by decide +kernel
theorem dL_law_693 : decode code 693 = .ok (.iaload, 1) := by decide +kernel
theorem dL_law_694 : decode code 694 = .ok (.aload_n 0, 1) := by decide +kernel
theorem dL_law_695 : decode code 695 = .ok (.iload_n 3, 1) := by decide +kernel
theorem dL_law_696 : decode code 696 = .ok (.iconst 2, 1) := by decide +kernel
theorem dL_law_697 : decode code 697 = .ok (.iadd, 1) := by decide +kernel
theorem dL_law_698 : decode code 698 = .ok (.iaload, 1) := by decide +kernel
theorem dL_law_699 : decode code 699 = .ok (.invokevirtual 93, 3) := by decide +kernel
theorem dL_law_702 : decode code 702 = .ok (.aload_n 2, 1) := by decide +kernel
theorem dL_law_703 : decode code 703 = .ok (.aload_n 0, 1) := by decide +kernel
theorem dL_law_704 : decode code 704 = .ok (.iload_n 3, 1) := by decide +kernel
theorem dL_law_705 : decode code 705 = .ok (.iconst 1, 1) := by decide +kernel
theorem dL_law_706 : decode code 706 = .ok (.iadd, 1) := by decide +kernel
theorem dL_law_707 : decode code 707 = .ok (.iaload, 1) := by decide +kernel
theorem dL_law_708 : decode code 708 = .ok (.aload_n 0, 1) := by decide +kernel
theorem dL_law_709 : decode code 709 = .ok (.iload_n 3, 1) := by decide +kernel
theorem dL_law_710 : decode code 710 = .ok (.iconst 2, 1) := by decide +kernel
theorem dL_law_711 : decode code 711 = .ok (.iadd, 1) := by decide +kernel
theorem dL_law_712 : decode code 712 = .ok (.iaload, 1) := by decide +kernel
theorem dL_law_713 : decode code 713 = .ok (.invokevirtual 96, 3) := by decide +kernel
theorem dL_law_716 : decode code 716 = .ok (.if_icmp .eq 510, 3) := by decide +kernel
theorem dL_law_719 : decode code 719 = .ok (.iconst 0, 1) := by decide +kernel
theorem dL_law_720 : decode code 720 = .ok (.ireturn, 1) := by decide +kernel
theorem dL_law_721 : decode code 721 = .ok (.aload_n 1, 1) := by decide +kernel
theorem dL_law_722 : decode code 722 = .ok (.aload_n 0, 1) := by decide +kernel
theorem dL_law_723 : decode code 723 = .ok (.iload_n 3, 1) := by decide +kernel
theorem dL_law_724 : decode code 724 = .ok (.iconst 1, 1) := by decide +kernel
theorem dL_law_725 : decode code 725 = .ok (.iadd, 1) := by decide +kernel
theorem dL_law_726 : decode code 726 = .ok (.iaload, 1) := by decide +kernel
theorem dL_law_727 : decode code 727 = .ok (.aload_n 0, 1) := by decide +kernel
theorem dL_law_728 : decode code 728 = .ok (.iload_n 3, 1) := by decide +kernel
theorem dL_law_729 : decode code 729 = .ok (.iconst 2, 1) := by decide +kernel
theorem dL_law_730 : decode code 730 = .ok (.iadd, 1) := by decide +kernel
theorem dL_law_731 : decode code 731 = .ok (.iaload, 1) := by decide +kernel
theorem dL_law_732 : decode code 732 = .ok (.invokevirtual 97, 3) := by decide +kernel
theorem dL_law_735 : decode code 735 = .ok (.aload_n 2, 1) := by decide +kernel
theorem dL_law_736 : decode code 736 = .ok (.aload_n 0, 1) := by decide +kernel
theorem dL_law_737 : decode code 737 = .ok (.iload_n 3, 1) := by decide +kernel
theorem dL_law_738 : decode code 738 = .ok (.iconst 1, 1) := by decide +kernel
theorem dL_law_739 : decode code 739 = .ok (.iadd, 1) := by decide +kernel
theorem dL_law_740 : decode code 740 = .ok (.iaload, 1) := by decide +kernel
theorem dL_law_741 : decode code 741 = .ok (.aload_n 0, 1) := by decide +kernel
theorem dL_law_742 : decode code 742 = .ok (.iload_n 3, 1) := by decide +kernel
theorem dL_law_743 : decode code 743 = .ok (.iconst 2, 1) := by decide +kernel
theorem dL_law_744 : decode code 744 = .ok (.iadd, 1) := by decide +kernel
theorem dL_law_745 : decode code 745 = .ok (.iaload, 1) := by decide +kernel
theorem dL_law_746 : decode code 746 = .ok (.invokevirtual 100, 3) := by decide +kernel
theorem dL_law_749 : decode code 749 = .ok (.if_icmp .eq 477, 3) := by decide +kernel
theorem dL_law_752 : decode code 752 = .ok (.iconst 0, 1) := by decide +kernel
theorem dL_law_753 : decode code 753 = .ok (.ireturn, 1) := by decide +kernel
theorem dL_law_754 : decode code 754 = .ok (.aload_n 1, 1) := by decide +kernel
theorem dL_law_755 : decode code 755 = .ok (.aload_n 0, 1) := by decide +kernel
theorem dL_law_756 : decode code 756 = .ok (.iload_n 3, 1) := by decide +kernel
theorem dL_law_757 : decode code 757 = .ok (.iconst 1, 1) := by decide +kernel
theorem dL_law_758 : decode code 758 = .ok (.iadd, 1) := by decide +kernel
theorem dL_law_759 : decode code 759 = .ok (.iaload, 1) := by decide +kernel
theorem dL_law_760 : decode code 760 = .ok (.aload_n 0, 1) := by decide +kernel
theorem dL_law_761 : decode code 761 = .ok (.iload_n 3, 1) := by decide +kernel
theorem dL_law_762 : decode code 762 = .ok (.iconst 2, 1) := by decide +kernel
theorem dL_law_763 : decode code 763 = .ok (.iadd, 1) := by decide +kernel
theorem dL_law_764 : decode code 764 = .ok (.iaload, 1) := by decide +kernel
theorem dL_law_765 : decode code 765 = .ok (.invokevirtual 101, 3) := by decide +kernel
theorem dL_law_768 : decode code 768 = .ok (.aload_n 2, 1) := by decide +kernel
theorem dL_law_769 : decode code 769 = .ok (.aload_n 0, 1) := by decide +kernel
theorem dL_law_770 : decode code 770 = .ok (.iload_n 3, 1) := by decide +kernel
theorem dL_law_771 : decode code 771 = .ok (.iconst 1, 1) := by decide +kernel
theorem dL_law_772 : decode code 772 = .ok (.iadd, 1) := by decide +kernel
theorem dL_law_773 : decode code 773 = .ok (.iaload, 1) := by decide +kernel
theorem dL_law_774 : decode code 774 = .ok (.aload_n 0, 1) := by decide +kernel
theorem dL_law_775 : decode code 775 = .ok (.iload_n 3, 1) := by decide +kernel
theorem dL_law_776 : decode code 776 = .ok (.iconst 2, 1) := by decide +kernel
theorem dL_law_777 : decode code 777 = .ok (.iadd, 1) := by decide +kernel
theorem dL_law_778 : decode code 778 = .ok (.iaload, 1) := by decide +kernel
theorem dL_law_779 : decode code 779 = .ok (.invokevirtual 104, 3) := by decide +kernel
theorem dL_law_782 : decode code 782 = .ok (.if_icmp .eq 444, 3) := by decide +kernel
theorem dL_law_785 : decode code 785 = .ok (.iconst 0, 1) := by decide +kernel
theorem dL_law_786 : decode code 786 = .ok (.ireturn, 1) := by decide +kernel
theorem dL_law_787 : decode code 787 = .ok (.aload_n 1, 1) := by decide +kernel
theorem dL_law_788 : decode code 788 = .ok (.aload_n 0, 1) := by decide +kernel
theorem dL_law_789 : decode code 789 = .ok (.iload_n 3, 1) := by decide +kernel
theorem dL_law_790 : decode code 790 = .ok (.iconst 1, 1) := by decide +kernel
theorem dL_law_791 : decode code 791 = .ok (.iadd, 1) := by decide +kernel
theorem dL_law_792 : decode code 792 = .ok (.iaload, 1) := by decide +kernel
theorem dL_law_793 : decode code 793 = .ok (.aload_n 0, 1) := by decide +kernel
theorem dL_law_794 : decode code 794 = .ok (.iload_n 3, 1) := by decide +kernel
theorem dL_law_795 : decode code 795 = .ok (.iconst 2, 1) := by decide +kernel
theorem dL_law_796 : decode code 796 = .ok (.iadd, 1) := by decide +kernel
theorem dL_law_797 : decode code 797 = .ok (.iaload, 1) := by decide +kernel
theorem dL_law_798 : decode code 798 = .ok (.invokevirtual 105, 3) := by decide +kernel
theorem dL_law_801 : decode code 801 = .ok (.aload_n 2, 1) := by decide +kernel
theorem dL_law_802 : decode code 802 = .ok (.aload_n 0, 1) := by decide +kernel
theorem dL_law_803 : decode code 803 = .ok (.iload_n 3, 1) := by decide +kernel
theorem dL_law_804 : decode code 804 = .ok (.iconst 1, 1) := by decide +kernel
theorem dL_law_805 : decode code 805 = .ok (.iadd, 1) := by decide +kernel
theorem dL_law_806 : decode code 806 = .ok (.iaload, 1) := by decide +kernel
theorem dL_law_807 : decode code 807 = .ok (.aload_n 0, 1) := by decide +kernel
theorem dL_law_808 : decode code 808 = .ok (.iload_n 3, 1) := by decide +kernel
theorem dL_law_809 : decode code 809 = .ok (.iconst 2, 1) := by decide +kernel
theorem dL_law_810 : decode code 810 = .ok (.iadd, 1) := by decide +kernel
theorem dL_law_811 : decode code 811 = .ok (.iaload, 1) := by decide +kernel
theorem dL_law_812 : decode code 812 = .ok (.invokevirtual 108, 3) := by decide +kernel
theorem dL_law_815 : decode code 815 = .ok (.if_icmp .eq 411, 3) := by decide +kernel
theorem dL_law_818 : decode code 818 = .ok (.iconst 0, 1) := by decide +kernel
theorem dL_law_819 : decode code 819 = .ok (.ireturn, 1) := by decide +kernel
theorem dL_law_820 : decode code 820 = .ok (.aload_n 1, 1) := by decide +kernel
theorem dL_law_821 : decode code 821 = .ok (.aload_n 0, 1) := by decide +kernel
theorem dL_law_822 : decode code 822 = .ok (.iload_n 3, 1) := by decide +kernel
theorem dL_law_823 : decode code 823 = .ok (.iconst 1, 1) := by decide +kernel
theorem dL_law_824 : decode code 824 = .ok (.iadd, 1) := by decide +kernel
theorem dL_law_825 : decode code 825 = .ok (.iaload, 1) := by decide +kernel
theorem dL_law_826 : decode code 826 = .ok (.aload_n 0, 1) := by decide +kernel
theorem dL_law_827 : decode code 827 = .ok (.iload_n 3, 1) := by decide +kernel
theorem dL_law_828 : decode code 828 = .ok (.iconst 2, 1) := by decide +kernel
theorem dL_law_829 : decode code 829 = .ok (.iadd, 1) := by decide +kernel
theorem dL_law_830 : decode code 830 = .ok (.iaload, 1) := by decide +kernel
theorem dL_law_831 : decode code 831 = .ok (.aload_n 0, 1) := by decide +kernel
theorem dL_law_832 : decode code 832 = .ok (.iload_n 3, 1) := by decide +kernel
theorem dL_law_833 : decode code 833 = .ok (.iconst 3, 1) := by decide +kernel
theorem dL_law_834 : decode code 834 = .ok (.iadd, 1) := by decide +kernel
theorem dL_law_835 : decode code 835 = .ok (.iaload, 1) := by decide +kernel
theorem dL_law_836 : decode code 836 = .ok (.invokevirtual 109, 3) := by decide +kernel
theorem dL_law_839 : decode code 839 = .ok (.aload_n 2, 1) := by decide +kernel
theorem dL_law_840 : decode code 840 = .ok (.aload_n 0, 1) := by decide +kernel
theorem dL_law_841 : decode code 841 = .ok (.iload_n 3, 1) := by decide +kernel
theorem dL_law_842 : decode code 842 = .ok (.iconst 1, 1) := by decide +kernel
theorem dL_law_843 : decode code 843 = .ok (.iadd, 1) := by decide +kernel
theorem dL_law_844 : decode code 844 = .ok (.iaload, 1) := by decide +kernel
theorem dL_law_845 : decode code 845 = .ok (.aload_n 0, 1) := by decide +kernel
theorem dL_law_846 : decode code 846 = .ok (.iload_n 3, 1) := by decide +kernel
theorem dL_law_847 : decode code 847 = .ok (.iconst 2, 1) := by decide +kernel
theorem dL_law_848 : decode code 848 = .ok (.iadd, 1) := by decide +kernel
theorem dL_law_849 : decode code 849 = .ok (.iaload, 1) := by decide +kernel
theorem dL_law_850 : decode code 850 = .ok (.aload_n 0, 1) := by decide +kernel
theorem dL_law_851 : decode code 851 = .ok (.iload_n 3, 1) := by decide +kernel
theorem dL_law_852 : decode code 852 = .ok (.iconst 3, 1) := by decide +kernel
theorem dL_law_853 : decode code 853 = .ok (.iadd, 1) := by decide +kernel
theorem dL_law_854 : decode code 854 = .ok (.iaload, 1) := by decide +kernel
theorem dL_law_855 : decode code 855 = .ok (.invokevirtual 112, 3) := by decide +kernel
theorem dL_law_858 : decode code 858 = .ok (.if_icmp .eq 368, 3) := by decide +kernel
theorem dL_law_861 : decode code 861 = .ok (.iconst 0, 1) := by decide +kernel
theorem dL_law_862 : decode code 862 = .ok (.ireturn, 1) := by decide +kernel
theorem dL_law_863 : decode code 863 = .ok (.aload_n 1, 1) := by decide +kernel
theorem dL_law_864 : decode code 864 = .ok (.aload_n 0, 1) := by decide +kernel
theorem dL_law_865 : decode code 865 = .ok (.iload_n 3, 1) := by decide +kernel
theorem dL_law_866 : decode code 866 = .ok (.iconst 1, 1) := by decide +kernel
theorem dL_law_867 : decode code 867 = .ok (.iadd, 1) := by decide +kernel
theorem dL_law_868 : decode code 868 = .ok (.iaload, 1) := by decide +kernel
theorem dL_law_869 : decode code 869 = .ok (.aload_n 0, 1) := by decide +kernel
theorem dL_law_870 : decode code 870 = .ok (.iload_n 3, 1) := by decide +kernel
theorem dL_law_871 : decode code 871 = .ok (.iconst 2, 1) := by decide +kernel
theorem dL_law_872 : decode code 872 = .ok (.iadd, 1) := by decide +kernel
theorem dL_law_873 : decode code 873 = .ok (.iaload, 1) := by decide +kernel
theorem dL_law_874 : decode code 874 = .ok (.aload_n 0, 1) := by decide +kernel
theorem dL_law_875 : decode code 875 = .ok (.iload_n 3, 1) := by decide +kernel
theorem dL_law_876 : decode code 876 = .ok (.iconst 3, 1) := by decide +kernel
theorem dL_law_877 : decode code 877 = .ok (.iadd, 1) := by decide +kernel
theorem dL_law_878 : decode code 878 = .ok (.iaload, 1) := by decide +kernel
theorem dL_law_879 : decode code 879 = .ok (.aload_n 0, 1) := by decide +kernel
theorem dL_law_880 : decode code 880 = .ok (.iload_n 3, 1) := by decide +kernel
theorem dL_law_881 : decode code 881 = .ok (.iconst 4, 1) := by decide +kernel
theorem dL_law_882 : decode code 882 = .ok (.iadd, 1) := by decide +kernel
theorem dL_law_883 : decode code 883 = .ok (.iaload, 1) := by decide +kernel
theorem dL_law_884 : decode code 884 = .ok (.invokevirtual 113, 3) := by decide +kernel
theorem dL_law_887 : decode code 887 = .ok (.aload_n 2, 1) := by decide +kernel
theorem dL_law_888 : decode code 888 = .ok (.aload_n 0, 1) := by decide +kernel
theorem dL_law_889 : decode code 889 = .ok (.iload_n 3, 1) := by decide +kernel
theorem dL_law_890 : decode code 890 = .ok (.iconst 1, 1) := by decide +kernel
theorem dL_law_891 : decode code 891 = .ok (.iadd, 1) := by decide +kernel
theorem dL_law_892 : decode code 892 = .ok (.iaload, 1) := by decide +kernel
theorem dL_law_893 : decode code 893 = .ok (.aload_n 0, 1) := by decide +kernel
theorem dL_law_894 : decode code 894 = .ok (.iload_n 3, 1) := by decide +kernel
theorem dL_law_895 : decode code 895 = .ok (.iconst 2, 1) := by decide +kernel
theorem dL_law_896 : decode code 896 = .ok (.iadd, 1) := by decide +kernel
theorem dL_law_897 : decode code 897 = .ok (.iaload, 1) := by decide +kernel
theorem dL_law_898 : decode code 898 = .ok (.aload_n 0, 1) := by decide +kernel
theorem dL_law_899 : decode code 899 = .ok (.iload_n 3, 1) := by decide +kernel
theorem dL_law_900 : decode code 900 = .ok (.iconst 3, 1) := by decide +kernel
theorem dL_law_901 : decode code 901 = .ok (.iadd, 1) := by decide +kernel
theorem dL_law_902 : decode code 902 = .ok (.iaload, 1) := by decide +kernel
theorem dL_law_903 : decode code 903 = .ok (.aload_n 0, 1) := by decide +kernel
theorem dL_law_904 : decode code 904 = .ok (.iload_n 3, 1) := by decide +kernel
theorem dL_law_905 : decode code 905 = .ok (.iconst 4, 1) := by decide +kernel
theorem dL_law_906 : decode code 906 = .ok (.iadd, 1) := by decide +kernel
theorem dL_law_907 : decode code 907 = .ok (.iaload, 1) := by decide +kernel
theorem dL_law_908 : decode code 908 = .ok (.invokevirtual 116, 3) := by decide +kernel
theorem dL_law_911 : decode code 911 = .ok (.if_icmp .eq 315, 3) := by decide +kernel
theorem dL_law_914 : decode code 914 = .ok (.iconst 0, 1) := by decide +kernel
theorem dL_law_915 : decode code 915 = .ok (.ireturn, 1) := by decide +kernel
theorem dL_law_916 : decode code 916 = .ok (.aload_n 1, 1) := by decide +kernel
theorem dL_law_917 : decode code 917 = .ok (.aload_n 0, 1) := by decide +kernel
theorem dL_law_918 : decode code 918 = .ok (.iload_n 3, 1) := by decide +kernel
theorem dL_law_919 : decode code 919 = .ok (.iconst 1, 1) := by decide +kernel
theorem dL_law_920 : decode code 920 = .ok (.iadd, 1) := by decide +kernel
theorem dL_law_921 : decode code 921 = .ok (.iaload, 1) := by decide +kernel
theorem dL_law_922 : decode code 922 = .ok (.aload_n 0, 1) := by decide +kernel
theorem dL_law_923 : decode code 923 = .ok (.iload_n 3, 1) := by decide +kernel
theorem dL_law_924 : decode code 924 = .ok (.iconst 2, 1) := by decide +kernel
theorem dL_law_925 : decode code 925 = .ok (.iadd, 1) := by decide +kernel
theorem dL_law_926 : decode code 926 = .ok (.iaload, 1) := by decide +kernel
theorem dL_law_927 : decode code 927 = .ok (.aload_n 0, 1) := by decide +kernel
theorem dL_law_928 : decode code 928 = .ok (.iload_n 3, 1) := by decide +kernel
theorem dL_law_929 : decode code 929 = .ok (.iconst 3, 1) := by decide +kernel
theorem dL_law_930 : decode code 930 = .ok (.iadd, 1) := by decide +kernel
theorem dL_law_931 : decode code 931 = .ok (.iaload, 1) := by decide +kernel
theorem dL_law_932 : decode code 932 = .ok (.invokevirtual 117, 3) := by decide +kernel
theorem dL_law_935 : decode code 935 = .ok (.aload_n 2, 1) := by decide +kernel
theorem dL_law_936 : decode code 936 = .ok (.aload_n 0, 1) := by decide +kernel
theorem dL_law_937 : decode code 937 = .ok (.iload_n 3, 1) := by decide +kernel
theorem dL_law_938 : decode code 938 = .ok (.iconst 1, 1) := by decide +kernel
theorem dL_law_939 : decode code 939 = .ok (.iadd, 1) := by decide +kernel
theorem dL_law_940 : decode code 940 = .ok (.iaload, 1) := by decide +kernel
theorem dL_law_941 : decode code 941 = .ok (.aload_n 0, 1) := by decide +kernel
theorem dL_law_942 : decode code 942 = .ok (.iload_n 3, 1) := by decide +kernel
theorem dL_law_943 : decode code 943 = .ok (.iconst 2, 1) := by decide +kernel
theorem dL_law_944 : decode code 944 = .ok (.iadd, 1) := by decide +kernel
theorem dL_law_945 : decode code 945 = .ok (.iaload, 1) := by decide +kernel
theorem dL_law_946 : decode code 946 = .ok (.aload_n 0, 1) := by decide +kernel
theorem dL_law_947 : decode code 947 = .ok (.iload_n 3, 1) := by decide +kernel
theorem dL_law_948 : decode code 948 = .ok (.iconst 3, 1) := by decide +kernel
theorem dL_law_949 : decode code 949 = .ok (.iadd, 1) := by decide +kernel
theorem dL_law_950 : decode code 950 = .ok (.iaload, 1) := by decide +kernel
theorem dL_law_951 : decode code 951 = .ok (.invokevirtual 120, 3) := by decide +kernel
theorem dL_law_954 : decode code 954 = .ok (.if_icmp .eq 272, 3) := by decide +kernel
theorem dL_law_957 : decode code 957 = .ok (.iconst 0, 1) := by decide +kernel
theorem dL_law_958 : decode code 958 = .ok (.ireturn, 1) := by decide +kernel
theorem dL_law_959 : decode code 959 = .ok (.aload_n 1, 1) := by decide +kernel
theorem dL_law_960 : decode code 960 = .ok (.aload_n 0, 1) := by decide +kernel
theorem dL_law_961 : decode code 961 = .ok (.iload_n 3, 1) := by decide +kernel
theorem dL_law_962 : decode code 962 = .ok (.iconst 1, 1) := by decide +kernel
theorem dL_law_963 : decode code 963 = .ok (.iadd, 1) := by decide +kernel
theorem dL_law_964 : decode code 964 = .ok (.iaload, 1) := by decide +kernel
theorem dL_law_965 : decode code 965 = .ok (.invokevirtual 121, 3) := by decide +kernel
theorem dL_law_968 : decode code 968 = .ok (.aload_n 2, 1) := by decide +kernel
theorem dL_law_969 : decode code 969 = .ok (.aload_n 0, 1) := by decide +kernel
theorem dL_law_970 : decode code 970 = .ok (.iload_n 3, 1) := by decide +kernel
theorem dL_law_971 : decode code 971 = .ok (.iconst 1, 1) := by decide +kernel
theorem dL_law_972 : decode code 972 = .ok (.iadd, 1) := by decide +kernel
theorem dL_law_973 : decode code 973 = .ok (.iaload, 1) := by decide +kernel
theorem dL_law_974 : decode code 974 = .ok (.invokevirtual 124, 3) := by decide +kernel
theorem dL_law_977 : decode code 977 = .ok (.if_icmp .eq 249, 3) := by decide +kernel
theorem dL_law_980 : decode code 980 = .ok (.iconst 0, 1) := by decide +kernel
theorem dL_law_981 : decode code 981 = .ok (.ireturn, 1) := by decide +kernel
theorem dL_law_982 : decode code 982 = .ok (.aload_n 1, 1) := by decide +kernel
theorem dL_law_983 : decode code 983 = .ok (.aload_n 0, 1) := by decide +kernel
theorem dL_law_984 : decode code 984 = .ok (.iload_n 3, 1) := by decide +kernel
theorem dL_law_985 : decode code 985 = .ok (.iconst 1, 1) := by decide +kernel
theorem dL_law_986 : decode code 986 = .ok (.iadd, 1) := by decide +kernel
theorem dL_law_987 : decode code 987 = .ok (.iaload, 1) := by decide +kernel
theorem dL_law_988 : decode code 988 = .ok (.invokevirtual 125, 3) := by decide +kernel
theorem dL_law_991 : decode code 991 = .ok (.aload_n 2, 1) := by decide +kernel
theorem dL_law_992 : decode code 992 = .ok (.aload_n 0, 1) := by decide +kernel
theorem dL_law_993 : decode code 993 = .ok (.iload_n 3, 1) := by decide +kernel
theorem dL_law_994 : decode code 994 = .ok (.iconst 1, 1) := by decide +kernel
theorem dL_law_995 : decode code 995 = .ok (.iadd, 1) := by decide +kernel
theorem dL_law_996 : decode code 996 = .ok (.iaload, 1) := by decide +kernel
theorem dL_law_997 : decode code 997 = .ok (.invokevirtual 128, 3) := by decide +kernel
theorem dL_law_1000 : decode code 1000 = .ok (.if_icmp .eq 226, 3) := by decide +kernel
theorem dL_law_1003 : decode code 1003 = .ok (.iconst 0, 1) := by decide +kernel
theorem dL_law_1004 : decode code 1004 = .ok (.ireturn, 1) := by decide +kernel
theorem dL_law_1005 : decode code 1005 = .ok (.aload_n 1, 1) := by decide +kernel
theorem dL_law_1006 : decode code 1006 = .ok (.aload_n 0, 1) := by decide +kernel
theorem dL_law_1007 : decode code 1007 = .ok (.iload_n 3, 1) := by decide +kernel
theorem dL_law_1008 : decode code 1008 = .ok (.iconst 1, 1) := by decide +kernel
theorem dL_law_1009 : decode code 1009 = .ok (.iadd, 1) := by decide +kernel
theorem dL_law_1010 : decode code 1010 = .ok (.iaload, 1) := by decide +kernel
theorem dL_law_1011 : decode code 1011 = .ok (.invokevirtual 129, 3) := by decide +kernel
theorem dL_law_1014 : decode code 1014 = .ok (.aload_n 2, 1) := by decide +kernel
theorem dL_law_1015 : decode code 1015 = .ok (.aload_n 0, 1) := by decide +kernel
theorem dL_law_1016 : decode code 1016 = .ok (.iload_n 3, 1) := by decide +kernel
theorem dL_law_1017 : decode code 1017 = .ok (.iconst 1, 1) := by decide +kernel
theorem dL_law_1018 : decode code 1018 = .ok (.iadd, 1) := by decide +kernel
theorem dL_law_1019 : decode code 1019 = .ok (.iaload, 1) := by decide +kernel
theorem dL_law_1020 : decode code 1020 = .ok (.invokevirtual 132, 3) := by decide +kernel
theorem dL_law_1023 : decode code 1023 = .ok (.if_icmp .eq 203, 3) := by decide +kernel
theorem dL_law_1026 : decode code 1026 = .ok (.iconst 0, 1) := by decide +kernel
theorem dL_law_1027 : decode code 1027 = .ok (.ireturn, 1) := by decide +kernel
theorem dL_law_1028 : decode code 1028 = .ok (.aload_n 1, 1) := by decide +kernel
theorem dL_law_1029 : decode code 1029 = .ok (.aload_n 0, 1) := by decide +kernel
theorem dL_law_1030 : decode code 1030 = .ok (.iload_n 3, 1) := by decide +kernel
theorem dL_law_1031 : decode code 1031 = .ok (.iconst 1, 1) := by decide +kernel
theorem dL_law_1032 : decode code 1032 = .ok (.iadd, 1) := by decide +kernel
theorem dL_law_1033 : decode code 1033 = .ok (.iaload, 1) := by decide +kernel
theorem dL_law_1034 : decode code 1034 = .ok (.aload_n 0, 1) := by decide +kernel
theorem dL_law_1035 : decode code 1035 = .ok (.iload_n 3, 1) := by decide +kernel
theorem dL_law_1036 : decode code 1036 = .ok (.iconst 2, 1) := by decide +kernel
theorem dL_law_1037 : decode code 1037 = .ok (.iadd, 1) := by decide +kernel
theorem dL_law_1038 : decode code 1038 = .ok (.iaload, 1) := by decide +kernel
theorem dL_law_1039 : decode code 1039 = .ok (.invokevirtual 133, 3) := by decide +kernel
theorem dL_law_1042 : decode code 1042 = .ok (.aload_n 2, 1) := by decide +kernel
theorem dL_law_1043 : decode code 1043 = .ok (.aload_n 0, 1) := by decide +kernel
theorem dL_law_1044 : decode code 1044 = .ok (.iload_n 3, 1) := by decide +kernel
theorem dL_law_1045 : decode code 1045 = .ok (.iconst 1, 1) := by decide +kernel
theorem dL_law_1046 : decode code 1046 = .ok (.iadd, 1) := by decide +kernel
theorem dL_law_1047 : decode code 1047 = .ok (.iaload, 1) := by decide +kernel
theorem dL_law_1048 : decode code 1048 = .ok (.aload_n 0, 1) := by decide +kernel
theorem dL_law_1049 : decode code 1049 = .ok (.iload_n 3, 1) := by decide +kernel
theorem dL_law_1050 : decode code 1050 = .ok (.iconst 2, 1) := by decide +kernel
theorem dL_law_1051 : decode code 1051 = .ok (.iadd, 1) := by decide +kernel
theorem dL_law_1052 : decode code 1052 = .ok (.iaload, 1) := by decide +kernel
theorem dL_law_1053 : decode code 1053 = .ok (.invokevirtual 136, 3) := by decide +kernel
theorem dL_law_1056 : decode code 1056 = .ok (.if_icmp .eq 170, 3) := by decide +kernel
theorem dL_law_1059 : decode code 1059 = .ok (.iconst 0, 1) := by decide +kernel
theorem dL_law_1060 : decode code 1060 = .ok (.ireturn, 1) := by decide +kernel
theorem dL_law_1061 : decode code 1061 = .ok (.aload_n 1, 1) := by decide +kernel
theorem dL_law_1062 : decode code 1062 = .ok (.aload_n 0, 1) := by decide +kernel
theorem dL_law_1063 : decode code 1063 = .ok (.iload_n 3, 1) := by decide +kernel
theorem dL_law_1064 : decode code 1064 = .ok (.iconst 1, 1) := by decide +kernel
theorem dL_law_1065 : decode code 1065 = .ok (.iadd, 1) := by decide +kernel
theorem dL_law_1066 : decode code 1066 = .ok (.iaload, 1) := by decide +kernel
theorem dL_law_1067 : decode code 1067 = .ok (.aload_n 0, 1) := by decide +kernel
theorem dL_law_1068 : decode code 1068 = .ok (.iload_n 3, 1) := by decide +kernel
theorem dL_law_1069 : decode code 1069 = .ok (.iconst 2, 1) := by decide +kernel
theorem dL_law_1070 : decode code 1070 = .ok (.iadd, 1) := by decide +kernel
theorem dL_law_1071 : decode code 1071 = .ok (.iaload, 1) := by decide +kernel
theorem dL_law_1072 : decode code 1072 = .ok (.invokevirtual 137, 3) := by decide +kernel
theorem dL_law_1075 : decode code 1075 = .ok (.aload_n 2, 1) := by decide +kernel
theorem dL_law_1076 : decode code 1076 = .ok (.aload_n 0, 1) := by decide +kernel
theorem dL_law_1077 : decode code 1077 = .ok (.iload_n 3, 1) := by decide +kernel
theorem dL_law_1078 : decode code 1078 = .ok (.iconst 1, 1) := by decide +kernel
theorem dL_law_1079 : decode code 1079 = .ok (.iadd, 1) := by decide +kernel
theorem dL_law_1080 : decode code 1080 = .ok (.iaload, 1) := by decide +kernel
theorem dL_law_1081 : decode code 1081 = .ok (.aload_n 0, 1) := by decide +kernel
theorem dL_law_1082 : decode code 1082 = .ok (.iload_n 3, 1) := by decide +kernel
theorem dL_law_1083 : decode code 1083 = .ok (.iconst 2, 1) := by decide +kernel
theorem dL_law_1084 : decode code 1084 = .ok (.iadd, 1) := by decide +kernel
theorem dL_law_1085 : decode code 1085 = .ok (.iaload, 1) := by decide +kernel
theorem dL_law_1086 : decode code 1086 = .ok (.invokevirtual 140, 3) := by decide +kernel
theorem dL_law_1089 : decode code 1089 = .ok (.if_icmp .eq 137, 3) := by decide +kernel
theorem dL_law_1092 : decode code 1092 = .ok (.iconst 0, 1) := by decide +kernel
theorem dL_law_1093 : decode code 1093 = .ok (.ireturn, 1) := by decide +kernel
theorem dL_law_1094 : decode code 1094 = .ok (.aload_n 1, 1) := by decide +kernel
theorem dL_law_1095 : decode code 1095 = .ok (.aload_n 0, 1) := by decide +kernel
theorem dL_law_1096 : decode code 1096 = .ok (.iload_n 3, 1) := by decide +kernel
theorem dL_law_1097 : decode code 1097 = .ok (.iconst 1, 1) := by decide +kernel
theorem dL_law_1098 : decode code 1098 = .ok (.iadd, 1) := by decide +kernel
theorem dL_law_1099 : decode code 1099 = .ok (.iaload, 1) := by decide +kernel
theorem dL_law_1100 : decode code 1100 = .ok (.aload_n 0, 1) := by decide +kernel
theorem dL_law_1101 : decode code 1101 = .ok (.iload_n 3, 1) := by decide +kernel
theorem dL_law_1102 : decode code 1102 = .ok (.iconst 2, 1) := by decide +kernel
theorem dL_law_1103 : decode code 1103 = .ok (.iadd, 1) := by decide +kernel
theorem dL_law_1104 : decode code 1104 = .ok (.iaload, 1) := by decide +kernel
theorem dL_law_1105 : decode code 1105 = .ok (.aload_n 0, 1) := by decide +kernel
theorem dL_law_1106 : decode code 1106 = .ok (.iload_n 3, 1) := by decide +kernel
theorem dL_law_1107 : decode code 1107 = .ok (.iconst 3, 1) := by decide +kernel
theorem dL_law_1108 : decode code 1108 = .ok (.iadd, 1) := by decide +kernel
theorem dL_law_1109 : decode code 1109 = .ok (.iaload, 1) := by decide +kernel
theorem dL_law_1110 : decode code 1110 = .ok (.aload_n 0, 1) := by decide +kernel
theorem dL_law_1111 : decode code 1111 = .ok (.iload_n 3, 1) := by decide +kernel
theorem dL_law_1112 : decode code 1112 = .ok (.iconst 4, 1) := by decide +kernel
theorem dL_law_1113 : decode code 1113 = .ok (.iadd, 1) := by decide +kernel
theorem dL_law_1114 : decode code 1114 = .ok (.iaload, 1) := by decide +kernel
theorem dL_law_1115 : decode code 1115 = .ok (.invokevirtual 141, 3) := by decide +kernel
theorem dL_law_1118 : decode code 1118 = .ok (.aload_n 2, 1) := by decide +kernel
theorem dL_law_1119 : decode code 1119 = .ok (.aload_n 0, 1) := by decide +kernel
theorem dL_law_1120 : decode code 1120 = .ok (.iload_n 3, 1) := by decide +kernel
theorem dL_law_1121 : decode code 1121 = .ok (.iconst 1, 1) := by decide +kernel
theorem dL_law_1122 : decode code 1122 = .ok (.iadd, 1) := by decide +kernel
theorem dL_law_1123 : decode code 1123 = .ok (.iaload, 1) := by decide +kernel
theorem dL_law_1124 : decode code 1124 = .ok (.aload_n 0, 1) := by decide +kernel
theorem dL_law_1125 : decode code 1125 = .ok (.iload_n 3, 1) := by decide +kernel
theorem dL_law_1126 : decode code 1126 = .ok (.iconst 2, 1) := by decide +kernel
theorem dL_law_1127 : decode code 1127 = .ok (.iadd, 1) := by decide +kernel
theorem dL_law_1128 : decode code 1128 = .ok (.iaload, 1) := by decide +kernel
theorem dL_law_1129 : decode code 1129 = .ok (.aload_n 0, 1) := by decide +kernel
theorem dL_law_1130 : decode code 1130 = .ok (.iload_n 3, 1) := by decide +kernel
theorem dL_law_1131 : decode code 1131 = .ok (.iconst 3, 1) := by decide +kernel
theorem dL_law_1132 : decode code 1132 = .ok (.iadd, 1) := by decide +kernel
theorem dL_law_1133 : decode code 1133 = .ok (.iaload, 1) := by decide +kernel
theorem dL_law_1134 : decode code 1134 = .ok (.aload_n 0, 1) := by decide +kernel
theorem dL_law_1135 : decode code 1135 = .ok (.iload_n 3, 1) := by decide +kernel
theorem dL_law_1136 : decode code 1136 = .ok (.iconst 4, 1) := by decide +kernel
theorem dL_law_1137 : decode code 1137 = .ok (.iadd, 1) := by decide +kernel
theorem dL_law_1138 : decode code 1138 = .ok (.iaload, 1) := by decide +kernel
theorem dL_law_1139 : decode code 1139 = .ok (.invokevirtual 144, 3) := by decide +kernel
theorem dL_law_1142 : decode code 1142 = .ok (.if_icmp .eq 84, 3) := by decide +kernel
theorem dL_law_1145 : decode code 1145 = .ok (.iconst 0, 1) := by decide +kernel
theorem dL_law_1146 : decode code 1146 = .ok (.ireturn, 1) := by decide +kernel
theorem dL_law_1147 : decode code 1147 = .ok (.aload_n 1, 1) := by decide +kernel
theorem dL_law_1148 : decode code 1148 = .ok (.aload_n 0, 1) := by decide +kernel
theorem dL_law_1149 : decode code 1149 = .ok (.iload_n 3, 1) := by decide +kernel
theorem dL_law_1150 : decode code 1150 = .ok (.iconst 1, 1) := by decide +kernel
theorem dL_law_1151 : decode code 1151 = .ok (.iadd, 1) := by decide +kernel
theorem dL_law_1152 : decode code 1152 = .ok (.iaload, 1) := by decide +kernel
theorem dL_law_1153 : decode code 1153 = .ok (.aload_n 0, 1) := by decide +kernel
theorem dL_law_1154 : decode code 1154 = .ok (.iload_n 3, 1) := by decide +kernel
theorem dL_law_1155 : decode code 1155 = .ok (.iconst 2, 1) := by decide +kernel
theorem dL_law_1156 : decode code 1156 = .ok (.iadd, 1) := by decide +kernel
theorem dL_law_1157 : decode code 1157 = .ok (.iaload, 1) := by decide +kernel
theorem dL_law_1158 : decode code 1158 = .ok (.invokevirtual 145, 3) := by decide +kernel
theorem dL_law_1161 : decode code 1161 = .ok (.aload_n 2, 1) := by decide +kernel
theorem dL_law_1162 : decode code 1162 = .ok (.aload_n 0, 1) := by decide +kernel
theorem dL_law_1163 : decode code 1163 = .ok (.iload_n 3, 1) := by decide +kernel
theorem dL_law_1164 : decode code 1164 = .ok (.iconst 1, 1) := by decide +kernel
theorem dL_law_1165 : decode code 1165 = .ok (.iadd, 1) := by decide +kernel
theorem dL_law_1166 : decode code 1166 = .ok (.iaload, 1) := by decide +kernel
theorem dL_law_1167 : decode code 1167 = .ok (.aload_n 0, 1) := by decide +kernel
theorem dL_law_1168 : decode code 1168 = .ok (.iload_n 3, 1) := by decide +kernel
theorem dL_law_1169 : decode code 1169 = .ok (.iconst 2, 1) := by decide +kernel
theorem dL_law_1170 : decode code 1170 = .ok (.iadd, 1) := by decide +kernel
theorem dL_law_1171 : decode code 1171 = .ok (.iaload, 1) := by decide +kernel
theorem dL_law_1172 : decode code 1172 = .ok (.invokevirtual 148, 3) := by decide +kernel
theorem dL_law_1175 : decode code 1175 = .ok (.if_icmp .eq 51, 3) := by decide +kernel
theorem dL_law_1178 : decode code 1178 = .ok (.iconst 0, 1) := by decide +kernel
theorem dL_law_1179 : decode code 1179 = .ok (.ireturn, 1) := by decide +kernel
theorem dL_law_1180 : decode code 1180 = .ok (.aload_n 1, 1) := by decide +kernel
theorem dL_law_1181 : decode code 1181 = .ok (.aload_n 0, 1) := by decide +kernel
theorem dL_law_1182 : decode code 1182 = .ok (.iload_n 3, 1) := by decide +kernel
theorem dL_law_1183 : decode code 1183 = .ok (.iconst 1, 1) := by decide +kernel
theorem dL_law_1184 : decode code 1184 = .ok (.iadd, 1) := by decide +kernel
theorem dL_law_1185 : decode code 1185 = .ok (.iaload, 1) := by decide +kernel
theorem dL_law_1186 : decode code 1186 = .ok (.invokevirtual 149, 3) := by decide +kernel
theorem dL_law_1189 : decode code 1189 = .ok (.aload_n 2, 1) := by decide +kernel
theorem dL_law_1190 : decode code 1190 = .ok (.aload_n 0, 1) := by decide +kernel
theorem dL_law_1191 : decode code 1191 = .ok (.iload_n 3, 1) := by decide +kernel
theorem dL_law_1192 : decode code 1192 = .ok (.iconst 1, 1) := by decide +kernel
theorem dL_law_1193 : decode code 1193 = .ok (.iadd, 1) := by decide +kernel
theorem dL_law_1194 : decode code 1194 = .ok (.iaload, 1) := by decide +kernel
theorem dL_law_1195 : decode code 1195 = .ok (.invokevirtual 152, 3) := by decide +kernel
theorem dL_law_1198 : decode code 1198 = .ok (.if_icmp .eq 28, 3) := by decide +kernel
theorem dL_law_1201 : decode code 1201 = .ok (.iconst 0, 1) := by decide +kernel
theorem dL_law_1202 : decode code 1202 = .ok (.ireturn, 1) := by decide +kernel
theorem dL_law_1203 : decode code 1203 = .ok (.aload_n 1, 1) := by decide +kernel
theorem dL_law_1204 : decode code 1204 = .ok (.aload_n 0, 1) := by decide +kernel
theorem dL_law_1205 : decode code 1205 = .ok (.iload_n 3, 1) := by decide +kernel
theorem dL_law_1206 : decode code 1206 = .ok (.iconst 1, 1) := by decide +kernel
theorem dL_law_1207 : decode code 1207 = .ok (.iadd, 1) := by decide +kernel
theorem dL_law_1208 : decode code 1208 = .ok (.iaload, 1) := by decide +kernel
theorem dL_law_1209 : decode code 1209 = .ok (.invokevirtual 153, 3) := by decide +kernel
theorem dL_law_1212 : decode code 1212 = .ok (.aload_n 2, 1) := by decide +kernel
theorem dL_law_1213 : decode code 1213 = .ok (.aload_n 0, 1) := by decide +kernel
theorem dL_law_1214 : decode code 1214 = .ok (.iload_n 3, 1) := by decide +kernel
theorem dL_law_1215 : decode code 1215 = .ok (.iconst 1, 1) := by decide +kernel
theorem dL_law_1216 : decode code 1216 = .ok (.iadd, 1) := by decide +kernel
theorem dL_law_1217 : decode code 1217 = .ok (.iaload, 1) := by decide +kernel
theorem dL_law_1218 : decode code 1218 = .ok (.invokevirtual 156, 3) := by decide +kernel
theorem dL_law_1221 : decode code 1221 = .ok (.if_icmp .eq 5, 3) := by decide +kernel
theorem dL_law_1224 : decode code 1224 = .ok (.iconst 0, 1) := by decide +kernel
theorem dL_law_1225 : decode code 1225 = .ok (.ireturn, 1) := by decide +kernel
theorem dL_law_1226 : decode code 1226 = .ok (.iinc 3 5, 3) := by decide +kernel
theorem dL_law_1229 : decode code 1229 = .ok (.goto (-1211), 3) := by decide +kernel
theorem dL_law_1232 : decode code 1232 = .ok (.iconst 1, 1) := by decide +kernel
theorem dL_law_1233 : decode code 1233 = .ok (.ireturn, 1) := by decide +kernel
theorem kL_13 : Cond.constantLong R_law 13 (4294967295 : Int64) ∈ rf_tb := rf_at 2389 (by decide +kernel) (by decide +kernel)
section LAW1
variable {p : Program} {l : Launch} {e : Env} {s : State} {m : MethodId} {args : Array Value} {below : List Frame} {meth : Method} {c : Code} {H : Heap} {locs : List Loc} {cells slots : Nat} {Q : State → Prop}
variable {pc : Nat} {ls : Array Slot} {rest : List Value} {D : cl_D} {Dr : rf_D} {c0 h0 : Nat} {σ : cl_S} {ρ : rf_S}
/-- the class's picture and the reference's, side by side in one heap -/
def lw_H (D : cl_D) (Dr : rf_D) (c0 h0 : Nat) (s : State) (σ : cl_S) (ρ : rf_S) (H : Heap) (locs : List Loc) (cells slots : Nat) : Prop := cl_G true D c0 room_1 s (fun _ => (0, 0)) σ.2.2.2.1 σ H locs cells slots ∧ rf_P Dr h0 ρ H ∧ h0 + 80 ≤ H.size ∧ c0 ≤ h0 ∧ (∀ a, h0 ≤ c0 + a → c0 + a < h0 + 80 → (σ.2.2.2.1 a).1 = 0) ∧ (σ.2.2.2.1 0).1 = 27
theorem rf_P_keep {H1 : Heap} (h : rf_P Dr h0 ρ H) (hk : ∀ q : Nat, h0 ≤ q → q < h0 + 80 → H1[q]? = H[q]?) : rf_P Dr h0 ρ H1 :=
  ⟨h.1.kept (hk h0 (Nat.le_refl _) (by omega)), fun c hc => by
    have hc' : c < 79 := hc
    rw [hk (h0 + (c + 1)) (by omega) (by omega)]; exact h.2 c hc⟩
theorem cl_P_keep {H1 : Heap} (h : cl_P D c0 σ H) (hz : H1.size = H.size) (hc : ∀ a, (σ.2.2.2.1 a).1 ≠ 0 → H1[c0 + a]? = H[c0 + a]?) (hp : ∀ q : Nat, q < D.2.2.2.1.size → H1[q]? = H[q]?) : cl_P D c0 σ H1 := by
  obtain ⟨h1, h2, h3, h4, h5, h6⟩ := h
  refine ⟨hz.trans h1, h2, fun a => ?_, h4, h5, fun q hq => (hp q hq).trans (h6 q hq)⟩
  have ha := h3 a
  unfold cl_at at ha ⊢
  by_cases t0 : (σ.2.2.2.1 a).1 = 0
  · rw [if_pos t0]; trivial
  · rw [if_neg t0] at ha ⊢
    by_cases t1 : (σ.2.2.2.1 a).1 < 16
    · rw [if_pos t1] at ha ⊢
      rw [hc a t0]; exact ha
    · rw [if_neg t1] at ha ⊢
      exact ha.kept (hc a t0)
theorem lw_callC {y : MethodName} {cy : ByteArray} {mL idx n fr lo : Nat} {rt : Option FieldType} {rv : Option Value} {X : (Nat → Nat × Nat) → Prop} {σ1 : cl_S} (C : cl_C D p s m args meth c code 4 ret R_law) (G : lw_H D Dr c0 h0 s σ ρ H locs cells slots) (hw : cl_wV R_law "PartHouse" y cy mL rt idx n) (As : List Value) (st0 : List Value) (hM : cl_Met true l D c0 y cy mL rt fr lo (.ref (c0 + 0) :: As) σ rv X σ1) (hfr : fr + 1 ≤ 12) (hlo : 8 + (mL + 11) + lo ≤ 492) (hn : As.length = n) (hst : st0 = As.reverse ++ .ref (c0 + 0) :: rest) (hls : ls.size = 4) (hW : (rest.map fun v => v.category).sum ≤ 8) (hdg : decode code pc = .ok (.invokevirtual idx, 3))
    (kk : ∀ (H1 : Heap) (locs1 : List Loc) (cells1 slots1 : Nat), lw_H D Dr c0 h0 s σ1 ρ H1 locs1 cells1 slots1 → W p l e room_1 s m args below meth c H1 locs1 cells1 slots1 Q (F0 m (pc + 3) ls (rv.toList ++ rest))) : W p l e room_1 s m args below meth c H locs cells slots Q (F0 m pc ls st0) := by
  subst hst
  obtain ⟨⟨w1, w2, w3, w4, w5⟩, d1, d2, d3⟩ := hw
  obtain ⟨G, g2, g3, g4, g5, g6⟩ := G
  have hK := cl_bk (p := p) (e := e) (R := room_1) (below := below) C hM w4 w5 hfr hlo H.size
  obtain ⟨cellB, hcB, q2, q3, -⟩ := cl_obj G (ci := 11) (N := _) rfl g6 (by decide)
  have hKc := (C.2.2.2.2.2.1.1 11 _ rfl).2
  intro TT hT X0
  obtain ⟨v, vm₁, ⟨U', l2, c2, s2⟩, hW₁, X', ⟨g', mk, t, L, e1, e2, hq, h1, hL, h2, h3⟩, st⟩ := callV X0 C.1 (C := "PartHouse") (bytes := cy) (maxL := mL) (ret := rt) C.2.2.2.1 (C.2.2.2.2.1 _ w1) (C.2.2.2.2.1 _ w2) (C.2.2.2.2.1 _ w3) (C.2.2.2.2.1 _ w4) ⟨d1, d2⟩ hK (by rw [hT]; exact hcB) (by rw [q3]; rfl) (by rw [q2]; exact hKc.1) (g := F0 m pc ls (As.reverse ++ .ref (c0 + 0) :: rest)) rfl (hls.trans C.2.2.1.symm) (argsL := As) (rest := rest) (fun sig h => by rw [h] at d3; exact hn.trans (Option.some.inj d3).symm) rfl (lv_room hW) (by rw [C.2.1]; exact hdg)
    (fun vm₁ hW₁ => ⟨by rw [G.2.2.2.2.2.1]; exact Nat.le_refl _, by rw [G.2.2.2.2.2.2]; exact Nat.le_refl _, rfl, by show TT.heap.size = _; rw [hT], by show cl_P D c0 σ TT.heap; rw [hT]; exact G.2.1, G.2.2.1, C.2.2.2.2.2.1.moved hW₁⟩)
  dsimp only [Pt.U, Pt.locs, Pt.cells, Pt.slots] at X' e1 e2 h1 h2 h3 st
  subst h1; subst h2; subst h3
  obtain ⟨hF, hu1⟩ : va_F (cl_A c0 σ.2.2.2.1 TT.heap.size) TT t ∧ ∀ a, c0 + a < TT.heap.size → σ1.2.2.2.1 a = σ.2.2.2.1 a := ⟨hq.2.2.2.2.1, hq.2.2.2.2.2.1⟩
  obtain ⟨rfl, hX, hu, hG⟩ := cl_aft (a9 := (Value.ref (c0 + 0) :: As).toArray) G (H1 := U'.heap) hT e1 hq hL
  have hkeep : ∀ q : Nat, h0 ≤ q → q < h0 + 80 → U'.heap[q]? = H[q]? := fun q q1 q2 => by
    rw [e1, ← hT]
    refine hF.2 q (by rw [hT]; omega) (fun h => ?_)
    rcases h with h | ⟨h, h'⟩
    · rw [hT] at h; omega
    · exact h' (g5 (q - c0) (by omega) (by omega))
  have hz : H.size ≤ U'.heap.size := by rw [e1, ← hT]; exact hF.1
  obtain ⟨t2, a1, b1⟩ := kk _ _ _ _ ⟨hG, rf_P_keep g2 hkeep, by omega, g4, fun a a1 a2 => by rw [hu1 a (by rw [hT]; omega)]; exact g5 a a1 a2, by rw [hu1 0 (by rw [hT]; omega)]; exact g6⟩ U' rfl X'
  exact ⟨t2, st t2 a1, b1⟩
theorem lw_callR {y : MethodName} {cy : ByteArray} {mL idx n fr lo : Nat} {rt : Option FieldType} {rv : Option Value} {ρ1 : rf_S} {B : State → Prop} (C : cl_C D p s m args meth c code 4 ret R_law) (hK : rf_K Dr s) (hcs : s.heap.size = c0 ∧ D.2.2.2.1 = s.heap) (G : lw_H D Dr c0 h0 s σ ρ H locs cells slots) (hw : cl_wV R_law RX12 y cy mL rt idx n) (As : List Value) (st0 : List Value) (hM : Met l y (.code y cy mL rt :: rf_tb) ({ frames := fr, cells := 0, slots := 0, locals := lo }) (va_Pc (.ref h0 :: As) B) (rf_Q Dr h0 rv ρ1) 0 0 (rf_A h0)) (hbl : FrameBlind (va_Pc (.ref h0 :: As) B)) (hBU : ∀ U : State, U.heap = H → s.WarmedH U.vm → B U) (hfr : fr + 1 ≤ 12) (hlo : 8 + (mL + 11) + lo ≤ 492) (hn : As.length = n) (hst : st0 = As.reverse ++ .ref h0 :: rest) (hls : ls.size = 4) (hW : (rest.map fun v => v.category).sum ≤ 8) (hdg : decode code pc = .ok (.invokevirtual idx, 3))
    (kk : ∀ (H1 : Heap) (locs1 : List Loc), lw_H D Dr c0 h0 s σ ρ1 H1 locs1 cells slots → W p l e room_1 s m args below meth c H1 locs1 cells slots Q (F0 m (pc + 3) ls (rv.toList ++ rest))) : W p l e room_1 s m args below meth c H locs cells slots Q (F0 m pc ls st0) := by
  subst hst
  have hce := cl_le1 G.1
  have hsl := cl_le2 G.1
  obtain ⟨hx, hb, hml, hown, hts, -, -, -⟩ := C
  obtain ⟨⟨w1, w2, w3, w4, w5⟩, d1, d2, d3⟩ := hw
  obtain ⟨G, g2, g3, g4, g5, g6⟩ := G
  have hrec : ∃ cell : Cell, H[h0]? = some cell ∧ cell.vm.isStatics = false ∧ s.vm.findClass RX12 = some cell.cls := by
    obtain ⟨cell, q1, q2, q3, q4⟩ := g2.1
    obtain ⟨hS, hfc, -⟩ := hK.1
    exact ⟨cell, q1, by rw [q3]; rfl, by rw [q2]; exact hfc⟩
  have hB : CallB room_1 s args R_law idx y cy mL rt (Cond.code y cy mL rt :: rf_tb) ({ frames := fr, cells := 0, slots := 0, locals := lo }) 0 0 n := callB_of n hts (rf_gw w4) rfl rfl rfl (hts _ w5) (hts _ w1) ⟨d1, d2, d3⟩ ⟨hfr, hlo⟩
  have hrun := va_runV (p := p) (l := l) (e := e) (R := room_1) (below := below) (meth := meth) (locs := locs) (cells := cells) (slots := slots) (g := F0 m pc ls (As.reverse ++ .ref h0 :: rest)) ⟨hx, hb, hml, hown, hts⟩ hM ⟨hB, hts _ w2, hts _ w3⟩ (H := H) (b := h0) (As := As) ⟨hbl, hrec, fun U hU hW => ⟨rfl, hBU U hU hW⟩⟩ rfl hn hls rfl (lv_room hW) hdg ⟨by omega, by omega⟩
  intro T hT X
  obtain ⟨v, st₀, t, T', L, g0, X', hL, e1, e2, ⟨hv, hP, hz, hF⟩, st⟩ := hrun T hT X
  cases hv
  rw [g0] at hz
  have hk : ∀ q : Nat, q < H.size → ¬ rf_A h0 q → T'.heap[q]? = H[q]? := fun q q1 q2 => by rw [e1, ← g0]; exact hF.2 q (by rw [g0]; exact q1) q2
  have hz' : T'.heap.size = H.size := by rw [e1]; exact hz
  have hcl : cl_P D c0 σ T'.heap := by
    refine cl_P_keep G.2.1 hz' (fun a ha => ?_) (fun q hq => ?_)
    · have hlt := @cl_lt room_1 s H locs cells slots true D c0 (fun _ => (0, 0)) σ.2.2.2.1 σ G a ha
      refine hk _ hlt (fun h => ha (g5 a h.1 ?_))
      have := h.2
      have e79 : rf_NA = 79 := rfl
      omega
    · rw [hcs.2] at hq
      have := hcs.1
      exact hk q (by omega) (fun h => by have := h.1; omega)
  obtain ⟨t2, a1, b1⟩ := kk T'.heap (locs ++ L) ⟨⟨G.1, hcl, G.2.2.1, ⟨by rw [hz']; exact G.2.2.2.1.1, fun q q1 q2 => by
      rw [hk q (Nat.lt_of_lt_of_le q1 G.2.2.2.1.1) (fun h => by have := h.1; have := hcs.1; omega)]
      exact G.2.2.2.1.2.1 q q1 q2, fun q hq => by
      rcases List.mem_append.mp hq with h | h
      · exact G.2.2.2.1.2.2 q h
      · exact Or.inl (by have := (hL q h).1; have := hcs.1; omega)⟩, G.2.2.2.2.1, G.2.2.2.2.2.1, G.2.2.2.2.2.2⟩, by rw [e1]; exact hP, by omega, g4, g5, g6⟩ T' rfl X'
  exact ⟨t2, st t2 a1, b1⟩
theorem lw_nA {b : Nat} (h : b < s.heap.size) (hc : s.heap.size = c0) : ¬ cl_A c0 (fun _ => (0, 0)) s.heap.size b := fun q => by
  rcases q with q | ⟨q, q'⟩
  · omega
  · exact q' rfl
/-- a place of the script -/
theorem lw_ld {b L : Nat} {xs : Nat → Int32} (C : cl_C D p s m args meth c code 4 ret R_law) (hcs : s.heap.size = c0) (hX : va_X b L xs s s.heap) (hbl : b < s.heap.size) (G : lw_H D Dr c0 h0 s σ ρ H locs cells slots) {i j : Nat} (hij : i + j < L) (hL : L ≤ 320) {v : Int32} (hv : v = nI j) (hdg : decode code pc = .ok (.iaload, 1))
    (kk : W p l e room_1 s m args below meth c H locs cells slots Q (F0 m (pc + 1) ls (.int (xs (i + j)) :: rest))) : W p l e room_1 s m args below meth c H locs cells slots Q (F0 m pc ls (.int (nI i + v) :: .ref b :: rest)) := by
  have e1 : nI i + v = nI (i + j) := by rw [hv]; exact nI_add i j
  rw [e1]
  refine va_sld C.1 C.2.1 hX hbl (lw_nA hbl hcs) G.1.2.2.2.1 (vp_in_nI hij (by omega)) hdg ?_
  have e2 : (nI (i + j)).toNatClampNeg = i + j := Int32.toNatClampNeg_ofNat_of_lt (by omega)
  rw [e2]
  exact kk
end LAW1

section LAW2
variable {p : Program} {l : Launch} {e : Env} {s : State} {m : MethodId} {args : Array Value} {below : List Frame} {meth : Method} {c : Code} {H : Heap} {locs : List Loc} {cells slots : Nat} {Q : State → Prop} {ls : Array Slot} {D : cl_D} {Dr : rf_D} {c0 h0 b L q9 qv9 : Nat} {xs : Nat → Int32} {σ : cl_S} {ρ : rf_S}
theorem lw_c0 : cl_wV R_law "PartHouse" yX11_type cX11_type 4 (some .int) 15 2 := ⟨⟨rf_at 739 (by decide +kernel) (by decide +kernel), rf_at 740 (by decide +kernel) (by decide +kernel), rf_at 741 (by decide +kernel) (by decide +kernel), cc_X11_type, rf_at 1 (by decide +kernel) (by decide +kernel)⟩, by decide +kernel, by decide +kernel, by decide +kernel⟩
theorem lw_q0 : cl_wV R_law RX12 yX12_type cX12_type 5 (some .int) 19 2 := ⟨⟨rf_at 1902 (by decide +kernel) (by decide +kernel), rf_at 1903 (by decide +kernel) (by decide +kernel), rf_at 1904 (by decide +kernel) (by decide +kernel), cc_type, rf_at 17 (by decide +kernel) (by decide +kernel)⟩, by decide +kernel, by decide +kernel, by decide +kernel⟩
theorem lw_c1 : cl_wV R_law "PartHouse" yX11_assemble cX11_assemble 2 (some .int) 20 0 := ⟨⟨rf_at 748 (by decide +kernel) (by decide +kernel), rf_at 749 (by decide +kernel) (by decide +kernel), rf_at 750 (by decide +kernel) (by decide +kernel), cc_X11_assemble, rf_at 1 (by decide +kernel) (by decide +kernel)⟩, by decide +kernel, by decide +kernel, by decide +kernel⟩
theorem lw_q1 : cl_wV R_law RX12 yX12_assemble cX12_assemble 3 (some .int) 24 0 := ⟨⟨rf_at 1906 (by decide +kernel) (by decide +kernel), rf_at 1907 (by decide +kernel) (by decide +kernel), rf_at 1908 (by decide +kernel) (by decide +kernel), cc_assemble, rf_at 17 (by decide +kernel) (by decide +kernel)⟩, by decide +kernel, by decide +kernel, by decide +kernel⟩
theorem lw_c2 : cl_wV R_law "PartHouse" yX11_place cX11_place 1 (some .int) 25 0 := ⟨⟨rf_at 892 (by decide +kernel) (by decide +kernel), rf_at 893 (by decide +kernel) (by decide +kernel), rf_at 894 (by decide +kernel) (by decide +kernel), cc_X11_place, rf_at 1 (by decide +kernel) (by decide +kernel)⟩, by decide +kernel, by decide +kernel, by decide +kernel⟩
theorem lw_q2 : cl_wV R_law RX12 yX12_place cX12_place 1 (some .int) 28 0 := ⟨⟨rf_at 1994 (by decide +kernel) (by decide +kernel), rf_at 1995 (by decide +kernel) (by decide +kernel), rf_at 1996 (by decide +kernel) (by decide +kernel), cc_place, rf_at 17 (by decide +kernel) (by decide +kernel)⟩, by decide +kernel, by decide +kernel, by decide +kernel⟩
theorem lw_c3 : cl_wV R_law "PartHouse" yX11_feed cX11_feed 5 (some .int) 29 4 := ⟨⟨rf_at 896 (by decide +kernel) (by decide +kernel), rf_at 897 (by decide +kernel) (by decide +kernel), rf_at 898 (by decide +kernel) (by decide +kernel), cc_X11_feed, rf_at 1 (by decide +kernel) (by decide +kernel)⟩, by decide +kernel, by decide +kernel, by decide +kernel⟩
theorem lw_q3 : cl_wV R_law RX12 yX12_feed cX12_feed 5 (some .int) 33 4 := ⟨⟨rf_at 1998 (by decide +kernel) (by decide +kernel), rf_at 1999 (by decide +kernel) (by decide +kernel), rf_at 2000 (by decide +kernel) (by decide +kernel), cc_feed, rf_at 17 (by decide +kernel) (by decide +kernel)⟩, by decide +kernel, by decide +kernel, by decide +kernel⟩
theorem lw_c4 : cl_wV R_law "PartHouse" yX11_show cX11_show 2 (some .int) 34 1 := ⟨⟨rf_at 900 (by decide +kernel) (by decide +kernel), rf_at 901 (by decide +kernel) (by decide +kernel), rf_at 902 (by decide +kernel) (by decide +kernel), cc_X11_show, rf_at 1 (by decide +kernel) (by decide +kernel)⟩, by decide +kernel, by decide +kernel, by decide +kernel⟩
theorem lw_q4 : cl_wV R_law RX12 yX12_show cX12_show 4 (some .int) 38 1 := ⟨⟨rf_at 2002 (by decide +kernel) (by decide +kernel), rf_at 2003 (by decide +kernel) (by decide +kernel), rf_at 2004 (by decide +kernel) (by decide +kernel), cc_show, rf_at 17 (by decide +kernel) (by decide +kernel)⟩, by decide +kernel, by decide +kernel, by decide +kernel⟩
theorem lw_c5 : cl_wV R_law "PartHouse" yX11_shown cX11_shown 2 (some .int) 39 1 := ⟨⟨rf_at 950 (by decide +kernel) (by decide +kernel), rf_at 951 (by decide +kernel) (by decide +kernel), rf_at 952 (by decide +kernel) (by decide +kernel), cc_X11_shown, rf_at 1 (by decide +kernel) (by decide +kernel)⟩, by decide +kernel, by decide +kernel, by decide +kernel⟩
theorem lw_q5 : cl_wV R_law RX12 yX12_shown cX12_shown 2 (some .int) 42 1 := ⟨⟨rf_at 2025 (by decide +kernel) (by decide +kernel), rf_at 2026 (by decide +kernel) (by decide +kernel), rf_at 2027 (by decide +kernel) (by decide +kernel), cc_shown, rf_at 17 (by decide +kernel) (by decide +kernel)⟩, by decide +kernel, by decide +kernel, by decide +kernel⟩
theorem lw_c6 : cl_wV R_law "PartHouse" yX11_drop cX11_drop 2 (some .int) 43 1 := ⟨⟨rf_at 954 (by decide +kernel) (by decide +kernel), rf_at 955 (by decide +kernel) (by decide +kernel), rf_at 956 (by decide +kernel) (by decide +kernel), cc_X11_drop, rf_at 1 (by decide +kernel) (by decide +kernel)⟩, by decide +kernel, by decide +kernel, by decide +kernel⟩
theorem lw_q6 : cl_wV R_law RX12 yX12_drop cX12_drop 2 (some .int) 46 1 := ⟨⟨rf_at 2029 (by decide +kernel) (by decide +kernel), rf_at 2030 (by decide +kernel) (by decide +kernel), rf_at 2031 (by decide +kernel) (by decide +kernel), cc_drop, rf_at 17 (by decide +kernel) (by decide +kernel)⟩, by decide +kernel, by decide +kernel, by decide +kernel⟩
theorem lw_c7 : cl_wV R_law "PartHouse" yX11_word cX11_word 2 (some .int) 47 1 := ⟨⟨rf_at 958 (by decide +kernel) (by decide +kernel), rf_at 959 (by decide +kernel) (by decide +kernel), rf_at 960 (by decide +kernel) (by decide +kernel), cc_X11_word, rf_at 1 (by decide +kernel) (by decide +kernel)⟩, by decide +kernel, by decide +kernel, by decide +kernel⟩
theorem lw_q7 : cl_wV R_law RX12 yX12_word cX12_word 2 (some .int) 50 1 := ⟨⟨rf_at 2033 (by decide +kernel) (by decide +kernel), rf_at 2034 (by decide +kernel) (by decide +kernel), rf_at 2035 (by decide +kernel) (by decide +kernel), cc_word, rf_at 17 (by decide +kernel) (by decide +kernel)⟩, by decide +kernel, by decide +kernel, by decide +kernel⟩
theorem lw_c8 : cl_wV R_law "PartHouse" yX11_keep cX11_keep 3 (some .int) 51 1 := ⟨⟨rf_at 962 (by decide +kernel) (by decide +kernel), rf_at 963 (by decide +kernel) (by decide +kernel), rf_at 964 (by decide +kernel) (by decide +kernel), cc_X11_keep, rf_at 1 (by decide +kernel) (by decide +kernel)⟩, by decide +kernel, by decide +kernel, by decide +kernel⟩
theorem lw_q8 : cl_wV R_law RX12 yX12_keep cX12_keep 4 (some .int) 54 1 := ⟨⟨rf_at 2037 (by decide +kernel) (by decide +kernel), rf_at 2038 (by decide +kernel) (by decide +kernel), rf_at 2039 (by decide +kernel) (by decide +kernel), cc_keep, rf_at 17 (by decide +kernel) (by decide +kernel)⟩, by decide +kernel, by decide +kernel, by decide +kernel⟩
theorem lw_c9 : cl_wV R_law "PartHouse" yX11_safe cX11_safe 4 (some .int) 55 2 := ⟨⟨rf_at 966 (by decide +kernel) (by decide +kernel), rf_at 967 (by decide +kernel) (by decide +kernel), rf_at 968 (by decide +kernel) (by decide +kernel), cc_X11_safe, rf_at 1 (by decide +kernel) (by decide +kernel)⟩, by decide +kernel, by decide +kernel, by decide +kernel⟩
theorem lw_q9 : cl_wV R_law RX12 yX12_safe cX12_safe 8 (some .int) 59 2 := ⟨⟨rf_at 2044 (by decide +kernel) (by decide +kernel), rf_at 2045 (by decide +kernel) (by decide +kernel), rf_at 2046 (by decide +kernel) (by decide +kernel), cc_safe, rf_at 17 (by decide +kernel) (by decide +kernel)⟩, by decide +kernel, by decide +kernel, by decide +kernel⟩
theorem lw_c10 : cl_wV R_law "PartHouse" yX11_boot cX11_boot 3 (some .int) 60 0 := ⟨⟨rf_at 1005 (by decide +kernel) (by decide +kernel), rf_at 1006 (by decide +kernel) (by decide +kernel), rf_at 1007 (by decide +kernel) (by decide +kernel), cc_X11_boot, rf_at 1 (by decide +kernel) (by decide +kernel)⟩, by decide +kernel, by decide +kernel, by decide +kernel⟩
theorem lw_q10 : cl_wV R_law RX12 yX12_boot cX12_boot 2 (some .int) 63 0 := ⟨⟨rf_at 2060 (by decide +kernel) (by decide +kernel), rf_at 2061 (by decide +kernel) (by decide +kernel), rf_at 2062 (by decide +kernel) (by decide +kernel), cc_boot, rf_at 17 (by decide +kernel) (by decide +kernel)⟩, by decide +kernel, by decide +kernel, by decide +kernel⟩
theorem lw_c11 : cl_wV R_law "PartHouse" yX11_off cX11_off 1 (some .int) 64 0 := ⟨⟨rf_at 1091 (by decide +kernel) (by decide +kernel), rf_at 1092 (by decide +kernel) (by decide +kernel), rf_at 1093 (by decide +kernel) (by decide +kernel), cc_X11_off, rf_at 1 (by decide +kernel) (by decide +kernel)⟩, by decide +kernel, by decide +kernel, by decide +kernel⟩
theorem lw_q11 : cl_wV R_law RX12 yX12_off cX12_off 1 (some .int) 67 0 := ⟨⟨rf_at 2092 (by decide +kernel) (by decide +kernel), rf_at 2093 (by decide +kernel) (by decide +kernel), rf_at 2094 (by decide +kernel) (by decide +kernel), cc_off, rf_at 17 (by decide +kernel) (by decide +kernel)⟩, by decide +kernel, by decide +kernel, by decide +kernel⟩
theorem lw_c12 : cl_wV R_law "PartHouse" yX11_cut cX11_cut 2 (some .int) 68 1 := ⟨⟨rf_at 1095 (by decide +kernel) (by decide +kernel), rf_at 1096 (by decide +kernel) (by decide +kernel), rf_at 1097 (by decide +kernel) (by decide +kernel), cc_X11_cut, rf_at 1 (by decide +kernel) (by decide +kernel)⟩, by decide +kernel, by decide +kernel, by decide +kernel⟩
theorem lw_q12 : cl_wV R_law RX12 yX12_cut cX12_cut 2 (some .int) 71 1 := ⟨⟨rf_at 2096 (by decide +kernel) (by decide +kernel), rf_at 2097 (by decide +kernel) (by decide +kernel), rf_at 2098 (by decide +kernel) (by decide +kernel), cc_cut, rf_at 17 (by decide +kernel) (by decide +kernel)⟩, by decide +kernel, by decide +kernel, by decide +kernel⟩
theorem lw_c13 : cl_wV R_law "PartHouse" yX11_run cX11_run 2 (some .int) 72 1 := ⟨⟨rf_at 1099 (by decide +kernel) (by decide +kernel), rf_at 1100 (by decide +kernel) (by decide +kernel), rf_at 1101 (by decide +kernel) (by decide +kernel), cc_X11_run, rf_at 1 (by decide +kernel) (by decide +kernel)⟩, by decide +kernel, by decide +kernel, by decide +kernel⟩
theorem lw_q13 : cl_wV R_law RX12 yX12_run cX12_run 3 (some .int) 75 1 := ⟨⟨rf_at 2100 (by decide +kernel) (by decide +kernel), rf_at 2101 (by decide +kernel) (by decide +kernel), rf_at 2102 (by decide +kernel) (by decide +kernel), cc_run, rf_at 17 (by decide +kernel) (by decide +kernel)⟩, by decide +kernel, by decide +kernel, by decide +kernel⟩
theorem lw_c14 : cl_wV R_law "PartHouse" yX11_input cX11_input 4 (some .int) 76 2 := ⟨⟨rf_at 1330 (by decide +kernel) (by decide +kernel), rf_at 1331 (by decide +kernel) (by decide +kernel), rf_at 1332 (by decide +kernel) (by decide +kernel), cc_X11_input, rf_at 1 (by decide +kernel) (by decide +kernel)⟩, by decide +kernel, by decide +kernel, by decide +kernel⟩
theorem lw_q14 : cl_wV R_law RX12 yX12_input cX12_input 3 (some .int) 79 2 := ⟨⟨rf_at 2236 (by decide +kernel) (by decide +kernel), rf_at 2237 (by decide +kernel) (by decide +kernel), rf_at 2238 (by decide +kernel) (by decide +kernel), cc_input, rf_at 17 (by decide +kernel) (by decide +kernel)⟩, by decide +kernel, by decide +kernel, by decide +kernel⟩
theorem lw_c15 : cl_wV R_law "PartHouse" yX11_inputTerm cX11_inputTerm 5 (some .int) 80 2 := ⟨⟨rf_at 1346 (by decide +kernel) (by decide +kernel), rf_at 1347 (by decide +kernel) (by decide +kernel), rf_at 1348 (by decide +kernel) (by decide +kernel), cc_X11_inputTerm, rf_at 1 (by decide +kernel) (by decide +kernel)⟩, by decide +kernel, by decide +kernel, by decide +kernel⟩
theorem lw_q15 : cl_wV R_law RX12 yX12_inputTerm cX12_inputTerm 3 (some .int) 83 2 := ⟨⟨rf_at 2244 (by decide +kernel) (by decide +kernel), rf_at 2245 (by decide +kernel) (by decide +kernel), rf_at 2246 (by decide +kernel) (by decide +kernel), cc_inputTerm, rf_at 17 (by decide +kernel) (by decide +kernel)⟩, by decide +kernel, by decide +kernel, by decide +kernel⟩
theorem lw_c16 : cl_wV R_law "PartHouse" yX11_output cX11_output 5 (some .int) 84 3 := ⟨⟨rf_at 1356 (by decide +kernel) (by decide +kernel), rf_at 1357 (by decide +kernel) (by decide +kernel), rf_at 1358 (by decide +kernel) (by decide +kernel), cc_X11_output, rf_at 1 (by decide +kernel) (by decide +kernel)⟩, by decide +kernel, by decide +kernel, by decide +kernel⟩
theorem lw_q16 : cl_wV R_law RX12 yX12_output cX12_output 5 (some .int) 88 3 := ⟨⟨rf_at 2252 (by decide +kernel) (by decide +kernel), rf_at 2253 (by decide +kernel) (by decide +kernel), rf_at 2254 (by decide +kernel) (by decide +kernel), cc_output, rf_at 17 (by decide +kernel) (by decide +kernel)⟩, by decide +kernel, by decide +kernel, by decide +kernel⟩
theorem lw_c17 : cl_wV R_law "PartHouse" yX11_state cX11_state 4 (some .int) 89 2 := ⟨⟨rf_at 1361 (by decide +kernel) (by decide +kernel), rf_at 1362 (by decide +kernel) (by decide +kernel), rf_at 1363 (by decide +kernel) (by decide +kernel), cc_X11_state, rf_at 1 (by decide +kernel) (by decide +kernel)⟩, by decide +kernel, by decide +kernel, by decide +kernel⟩
theorem lw_q17 : cl_wV R_law RX12 yX12_state cX12_state 3 (some .int) 92 2 := ⟨⟨rf_at 2260 (by decide +kernel) (by decide +kernel), rf_at 2261 (by decide +kernel) (by decide +kernel), rf_at 2262 (by decide +kernel) (by decide +kernel), cc_state, rf_at 17 (by decide +kernel) (by decide +kernel)⟩, by decide +kernel, by decide +kernel, by decide +kernel⟩
theorem lw_c18 : cl_wV R_law "PartHouse" yX11_register cX11_register 3 (some .int) 93 2 := ⟨⟨rf_at 1365 (by decide +kernel) (by decide +kernel), rf_at 1366 (by decide +kernel) (by decide +kernel), rf_at 1367 (by decide +kernel) (by decide +kernel), cc_X11_register, rf_at 1 (by decide +kernel) (by decide +kernel)⟩, by decide +kernel, by decide +kernel, by decide +kernel⟩
theorem lw_q18 : cl_wV R_law RX12 yX12_register cX12_register 3 (some .int) 96 2 := ⟨⟨rf_at 2264 (by decide +kernel) (by decide +kernel), rf_at 2265 (by decide +kernel) (by decide +kernel), rf_at 2266 (by decide +kernel) (by decide +kernel), cc_register, rf_at 17 (by decide +kernel) (by decide +kernel)⟩, by decide +kernel, by decide +kernel, by decide +kernel⟩
theorem lw_c19 : cl_wV R_law "PartHouse" yX11_memory cX11_memory 3 (some .int) 97 2 := ⟨⟨rf_at 1369 (by decide +kernel) (by decide +kernel), rf_at 1370 (by decide +kernel) (by decide +kernel), rf_at 1371 (by decide +kernel) (by decide +kernel), cc_X11_memory, rf_at 1 (by decide +kernel) (by decide +kernel)⟩, by decide +kernel, by decide +kernel, by decide +kernel⟩
theorem lw_q19 : cl_wV R_law RX12 yX12_memory cX12_memory 3 (some .int) 100 2 := ⟨⟨rf_at 2268 (by decide +kernel) (by decide +kernel), rf_at 2269 (by decide +kernel) (by decide +kernel), rf_at 2270 (by decide +kernel) (by decide +kernel), cc_memory, rf_at 17 (by decide +kernel) (by decide +kernel)⟩, by decide +kernel, by decide +kernel, by decide +kernel⟩
theorem lw_c20 : cl_wV R_law "PartHouse" yX11_channel cX11_channel 4 (some .int) 101 2 := ⟨⟨rf_at 1373 (by decide +kernel) (by decide +kernel), rf_at 1374 (by decide +kernel) (by decide +kernel), rf_at 1375 (by decide +kernel) (by decide +kernel), cc_X11_channel, rf_at 1 (by decide +kernel) (by decide +kernel)⟩, by decide +kernel, by decide +kernel, by decide +kernel⟩
theorem lw_q20 : cl_wV R_law RX12 yX12_channel cX12_channel 3 (some .int) 104 2 := ⟨⟨rf_at 2272 (by decide +kernel) (by decide +kernel), rf_at 2273 (by decide +kernel) (by decide +kernel), rf_at 2274 (by decide +kernel) (by decide +kernel), cc_channel, rf_at 17 (by decide +kernel) (by decide +kernel)⟩, by decide +kernel, by decide +kernel, by decide +kernel⟩
theorem lw_c21 : cl_wV R_law "PartHouse" yX11_block cX11_block 3 (some .int) 105 2 := ⟨⟨rf_at 1377 (by decide +kernel) (by decide +kernel), rf_at 1378 (by decide +kernel) (by decide +kernel), rf_at 1379 (by decide +kernel) (by decide +kernel), cc_X11_block, rf_at 1 (by decide +kernel) (by decide +kernel)⟩, by decide +kernel, by decide +kernel, by decide +kernel⟩
theorem lw_q21 : cl_wV R_law RX12 yX12_block cX12_block 3 (some .int) 108 2 := ⟨⟨rf_at 2276 (by decide +kernel) (by decide +kernel), rf_at 2277 (by decide +kernel) (by decide +kernel), rf_at 2278 (by decide +kernel) (by decide +kernel), cc_block, rf_at 17 (by decide +kernel) (by decide +kernel)⟩, by decide +kernel, by decide +kernel, by decide +kernel⟩
theorem lw_c22 : cl_wV R_law "PartHouse" yX11_put cX11_put 4 (some .int) 109 3 := ⟨⟨rf_at 1381 (by decide +kernel) (by decide +kernel), rf_at 1382 (by decide +kernel) (by decide +kernel), rf_at 1383 (by decide +kernel) (by decide +kernel), cc_X11_put, rf_at 1 (by decide +kernel) (by decide +kernel)⟩, by decide +kernel, by decide +kernel, by decide +kernel⟩
theorem lw_q22 : cl_wV R_law RX12 yX12_put cX12_put 4 (some .int) 112 3 := ⟨⟨rf_at 2280 (by decide +kernel) (by decide +kernel), rf_at 2281 (by decide +kernel) (by decide +kernel), rf_at 2282 (by decide +kernel) (by decide +kernel), cc_put, rf_at 17 (by decide +kernel) (by decide +kernel)⟩, by decide +kernel, by decide +kernel, by decide +kernel⟩
theorem lw_c23 : cl_wV R_law "PartHouse" yX11_make cX11_make 5 (some .int) 113 4 := ⟨⟨rf_at 1387 (by decide +kernel) (by decide +kernel), rf_at 1388 (by decide +kernel) (by decide +kernel), rf_at 1389 (by decide +kernel) (by decide +kernel), cc_X11_make, rf_at 1 (by decide +kernel) (by decide +kernel)⟩, by decide +kernel, by decide +kernel, by decide +kernel⟩
theorem lw_q23 : cl_wV R_law RX12 yX12_make cX12_make 6 (some .int) 116 4 := ⟨⟨rf_at 2284 (by decide +kernel) (by decide +kernel), rf_at 2285 (by decide +kernel) (by decide +kernel), rf_at 2286 (by decide +kernel) (by decide +kernel), cc_make, rf_at 17 (by decide +kernel) (by decide +kernel)⟩, by decide +kernel, by decide +kernel, by decide +kernel⟩
theorem lw_c24 : cl_wV R_law "PartHouse" yX11_take cX11_take 5 (some .int) 117 3 := ⟨⟨rf_at 1399 (by decide +kernel) (by decide +kernel), rf_at 1400 (by decide +kernel) (by decide +kernel), rf_at 1401 (by decide +kernel) (by decide +kernel), cc_X11_take, rf_at 1 (by decide +kernel) (by decide +kernel)⟩, by decide +kernel, by decide +kernel, by decide +kernel⟩
theorem lw_q24 : cl_wV R_law RX12 yX12_take cX12_take 6 (some .int) 120 3 := ⟨⟨rf_at 2296 (by decide +kernel) (by decide +kernel), rf_at 2297 (by decide +kernel) (by decide +kernel), rf_at 2298 (by decide +kernel) (by decide +kernel), cc_take, rf_at 17 (by decide +kernel) (by decide +kernel)⟩, by decide +kernel, by decide +kernel, by decide +kernel⟩
theorem lw_c25 : cl_wV R_law "PartHouse" yX11_kind cX11_kind 2 (some .int) 121 1 := ⟨⟨rf_at 1407 (by decide +kernel) (by decide +kernel), rf_at 1408 (by decide +kernel) (by decide +kernel), rf_at 1409 (by decide +kernel) (by decide +kernel), cc_X11_kind, rf_at 1 (by decide +kernel) (by decide +kernel)⟩, by decide +kernel, by decide +kernel, by decide +kernel⟩
theorem lw_q25 : cl_wV R_law RX12 yX12_kind cX12_kind 2 (some .int) 124 1 := ⟨⟨rf_at 2300 (by decide +kernel) (by decide +kernel), rf_at 2301 (by decide +kernel) (by decide +kernel), rf_at 2302 (by decide +kernel) (by decide +kernel), cc_kind, rf_at 17 (by decide +kernel) (by decide +kernel)⟩, by decide +kernel, by decide +kernel, by decide +kernel⟩
theorem lw_c26 : cl_wV R_law "PartHouse" yX11_number cX11_number 2 (some .int) 125 1 := ⟨⟨rf_at 1411 (by decide +kernel) (by decide +kernel), rf_at 1412 (by decide +kernel) (by decide +kernel), rf_at 1413 (by decide +kernel) (by decide +kernel), cc_X11_number, rf_at 1 (by decide +kernel) (by decide +kernel)⟩, by decide +kernel, by decide +kernel, by decide +kernel⟩
theorem lw_q26 : cl_wV R_law RX12 yX12_number cX12_number 2 (some .int) 128 1 := ⟨⟨rf_at 2304 (by decide +kernel) (by decide +kernel), rf_at 2305 (by decide +kernel) (by decide +kernel), rf_at 2306 (by decide +kernel) (by decide +kernel), cc_number, rf_at 17 (by decide +kernel) (by decide +kernel)⟩, by decide +kernel, by decide +kernel, by decide +kernel⟩
theorem lw_c27 : cl_wV R_law "PartHouse" yX11_measure cX11_measure 2 (some .int) 129 1 := ⟨⟨rf_at 1415 (by decide +kernel) (by decide +kernel), rf_at 1416 (by decide +kernel) (by decide +kernel), rf_at 1417 (by decide +kernel) (by decide +kernel), cc_X11_measure, rf_at 1 (by decide +kernel) (by decide +kernel)⟩, by decide +kernel, by decide +kernel, by decide +kernel⟩
theorem lw_q27 : cl_wV R_law RX12 yX12_measure cX12_measure 2 (some .int) 132 1 := ⟨⟨rf_at 2308 (by decide +kernel) (by decide +kernel), rf_at 2309 (by decide +kernel) (by decide +kernel), rf_at 2310 (by decide +kernel) (by decide +kernel), cc_measure, rf_at 17 (by decide +kernel) (by decide +kernel)⟩, by decide +kernel, by decide +kernel, by decide +kernel⟩
theorem lw_c28 : cl_wV R_law "PartHouse" yX11_knows cX11_knows 4 (some .int) 133 2 := ⟨⟨rf_at 1419 (by decide +kernel) (by decide +kernel), rf_at 1420 (by decide +kernel) (by decide +kernel), rf_at 1421 (by decide +kernel) (by decide +kernel), cc_X11_knows, rf_at 1 (by decide +kernel) (by decide +kernel)⟩, by decide +kernel, by decide +kernel, by decide +kernel⟩
theorem lw_q28 : cl_wV R_law RX12 yX12_knows cX12_knows 4 (some .int) 136 2 := ⟨⟨rf_at 2312 (by decide +kernel) (by decide +kernel), rf_at 2313 (by decide +kernel) (by decide +kernel), rf_at 2314 (by decide +kernel) (by decide +kernel), cc_knows, rf_at 17 (by decide +kernel) (by decide +kernel)⟩, by decide +kernel, by decide +kernel, by decide +kernel⟩
theorem lw_c29 : cl_wV R_law "PartHouse" yX11_far cX11_far 5 (some .int) 137 2 := ⟨⟨rf_at 1455 (by decide +kernel) (by decide +kernel), rf_at 1456 (by decide +kernel) (by decide +kernel), rf_at 1457 (by decide +kernel) (by decide +kernel), cc_X11_far, rf_at 1 (by decide +kernel) (by decide +kernel)⟩, by decide +kernel, by decide +kernel, by decide +kernel⟩
theorem lw_q29 : cl_wV R_law RX12 yX12_far cX12_far 4 (some .int) 140 2 := ⟨⟨rf_at 2353 (by decide +kernel) (by decide +kernel), rf_at 2354 (by decide +kernel) (by decide +kernel), rf_at 2355 (by decide +kernel) (by decide +kernel), cc_far, rf_at 17 (by decide +kernel) (by decide +kernel)⟩, by decide +kernel, by decide +kernel, by decide +kernel⟩
theorem lw_c30 : cl_wV R_law "PartHouse" yX11_same cX11_same 7 (some .int) 141 4 := ⟨⟨rf_at 1459 (by decide +kernel) (by decide +kernel), rf_at 1460 (by decide +kernel) (by decide +kernel), rf_at 1461 (by decide +kernel) (by decide +kernel), cc_X11_same, rf_at 1 (by decide +kernel) (by decide +kernel)⟩, by decide +kernel, by decide +kernel, by decide +kernel⟩
theorem lw_q30 : cl_wV R_law RX12 yX12_same cX12_same 7 (some .int) 144 4 := ⟨⟨rf_at 2357 (by decide +kernel) (by decide +kernel), rf_at 2358 (by decide +kernel) (by decide +kernel), rf_at 2359 (by decide +kernel) (by decide +kernel), cc_same, rf_at 17 (by decide +kernel) (by decide +kernel)⟩, by decide +kernel, by decide +kernel, by decide +kernel⟩
theorem lw_c31 : cl_wV R_law "PartHouse" yX11_flows cX11_flows 3 (some .int) 145 2 := ⟨⟨rf_at 1463 (by decide +kernel) (by decide +kernel), rf_at 1464 (by decide +kernel) (by decide +kernel), rf_at 1465 (by decide +kernel) (by decide +kernel), cc_X11_flows, rf_at 1 (by decide +kernel) (by decide +kernel)⟩, by decide +kernel, by decide +kernel, by decide +kernel⟩
theorem lw_q31 : cl_wV R_law RX12 yX12_flows cX12_flows 3 (some .int) 148 2 := ⟨⟨rf_at 2361 (by decide +kernel) (by decide +kernel), rf_at 2362 (by decide +kernel) (by decide +kernel), rf_at 2363 (by decide +kernel) (by decide +kernel), cc_flows, rf_at 17 (by decide +kernel) (by decide +kernel)⟩, by decide +kernel, by decide +kernel, by decide +kernel⟩
theorem lw_c32 : cl_wV R_law "PartHouse" yX11_purge cX11_purge 2 (some .int) 149 1 := ⟨⟨rf_at 1471 (by decide +kernel) (by decide +kernel), rf_at 1472 (by decide +kernel) (by decide +kernel), rf_at 1473 (by decide +kernel) (by decide +kernel), cc_X11_purge, rf_at 1 (by decide +kernel) (by decide +kernel)⟩, by decide +kernel, by decide +kernel, by decide +kernel⟩
theorem lw_q32 : cl_wV R_law RX12 yX12_purge cX12_purge 7 (some .int) 152 1 := ⟨⟨rf_at 2365 (by decide +kernel) (by decide +kernel), rf_at 2366 (by decide +kernel) (by decide +kernel), rf_at 2367 (by decide +kernel) (by decide +kernel), cc_purge, rf_at 17 (by decide +kernel) (by decide +kernel)⟩, by decide +kernel, by decide +kernel, by decide +kernel⟩
theorem lw_c33 : cl_wV R_law "PartHouse" yX11_told cX11_told 2 (some .int) 153 1 := ⟨⟨rf_at 1501 (by decide +kernel) (by decide +kernel), rf_at 1502 (by decide +kernel) (by decide +kernel), rf_at 1503 (by decide +kernel) (by decide +kernel), cc_X11_told, rf_at 1 (by decide +kernel) (by decide +kernel)⟩, by decide +kernel, by decide +kernel, by decide +kernel⟩
theorem lw_q33 : cl_wV R_law RX12 yX12_told cX12_told 2 (some .int) 156 1 := ⟨⟨rf_at 2385 (by decide +kernel) (by decide +kernel), rf_at 2386 (by decide +kernel) (by decide +kernel), rf_at 2387 (by decide +kernel) (by decide +kernel), cc_told, rf_at 17 (by decide +kernel) (by decide +kernel)⟩, by decide +kernel, by decide +kernel, by decide +kernel⟩
/-- the 34 calls, as the law makes them -/
noncomputable def lw_fc (n : Nat) (x1 x2 x3 x4 : Int32) (σ : cl_S) : Option (Int32 × cl_S) := match n with
  | 0 => fc_X11_type 0 ((x1.toInt64 <<< ((32:Int32).toInt64 &&& 63)) ||| (x2.toInt64 &&& (4294967295:Int64))) x3 σ
  | 1 => fc_X11_assemble 0  σ
  | 2 => fc_X11_place 0  σ
  | 3 => fc_X11_feed 0 x1 x2 x3 x4 σ
  | 4 => fc_X11_show 0 x1 σ
  | 5 => fc_X11_shown 0 x1 σ
  | 6 => fc_X11_drop 0 x1 σ
  | 7 => fc_X11_word 0 x1 σ
  | 8 => fc_X11_keep 0 x1 σ
  | 9 => fc_X11_safe 0 x1 x2 σ
  | 10 => fc_X11_boot 0  σ
  | 11 => fc_X11_off 0  σ
  | 12 => fc_X11_cut 0 x1 σ
  | 13 => fc_X11_run 0 x1 σ
  | 14 => fc_X11_input 0 x1 x2 σ
  | 15 => fc_X11_inputTerm 0 x1 x2 σ
  | 16 => fc_X11_output 0 x1 x2 x3 σ
  | 17 => fc_X11_state 0 x1 x2 σ
  | 18 => fc_X11_register 0 x1 x2 σ
  | 19 => fc_X11_memory 0 x1 x2 σ
  | 20 => fc_X11_channel 0 x1 x2 σ
  | 21 => fc_X11_block 0 x1 x2 σ
  | 22 => fc_X11_put 0 x1 x2 x3 σ
  | 23 => fc_X11_make 0 x1 x2 x3 x4 σ
  | 24 => fc_X11_take 0 x1 x2 x3 σ
  | 25 => fc_X11_kind 0 x1 σ
  | 26 => fc_X11_number 0 x1 σ
  | 27 => fc_X11_measure 0 x1 σ
  | 28 => fc_X11_knows 0 x1 x2 σ
  | 29 => fc_X11_far 0 x1 x2 σ
  | 30 => fc_X11_same 0 x1 x2 x3 x4 σ
  | 31 => fc_X11_flows 0 x1 x2 σ
  | 32 => fc_X11_purge 0 x1 σ
  | 33 => fc_X11_told 0 x1 σ
  | _ => none
noncomputable def lw_fq (n : Nat) (x1 x2 x3 x4 : Int32) (ρ : rf_S) : Option (Int32 × rf_S) := match n with
  | 0 => fq_type ((x1.toInt64 <<< ((32:Int32).toInt64 &&& 63)) ||| (x2.toInt64 &&& (4294967295:Int64))) x3 ρ
  | 1 => fq_assemble  ρ
  | 2 => fq_place  ρ
  | 3 => fq_feed x1 x2 x3 x4 ρ
  | 4 => fq_show x1 ρ
  | 5 => fq_shown x1 ρ
  | 6 => fq_drop x1 ρ
  | 7 => fq_word x1 ρ
  | 8 => fq_keep x1 ρ
  | 9 => fq_safe x1 x2 ρ
  | 10 => fq_boot  ρ
  | 11 => fq_off  ρ
  | 12 => fq_cut x1 ρ
  | 13 => fq_run x1 ρ
  | 14 => fq_input x1 x2 ρ
  | 15 => fq_inputTerm x1 x2 ρ
  | 16 => fq_output x1 x2 x3 ρ
  | 17 => fq_state x1 x2 ρ
  | 18 => fq_register x1 x2 ρ
  | 19 => fq_memory x1 x2 ρ
  | 20 => fq_channel x1 x2 ρ
  | 21 => fq_block x1 x2 ρ
  | 22 => fq_put x1 x2 x3 ρ
  | 23 => fq_make x1 x2 x3 x4 ρ
  | 24 => fq_take x1 x2 x3 ρ
  | 25 => fq_kind x1 ρ
  | 26 => fq_number x1 ρ
  | 27 => fq_measure x1 ρ
  | 28 => fq_knows x1 x2 ρ
  | 29 => fq_far x1 x2 ρ
  | 30 => fq_same x1 x2 x3 x4 ρ
  | 31 => fq_flows x1 x2 ρ
  | 32 => fq_purge x1 ρ
  | 33 => fq_told x1 ρ
  | _ => none
theorem lw_BR {h : cl_S} (G : lw_H D Dr c0 h0 s h ρ H locs cells slots) (hK : rf_K Dr s) : ∀ U : State, U.heap = H → s.WarmedH U.vm → rf_P Dr h0 ρ U.heap ∧ rf_K Dr U := fun U hU hW => ⟨by rw [hU]; exact G.2.1, hK.moved hW.alike⟩
theorem lw_blZ {av : List Value} {E : Heap × Nat × Nat} : FrameBlind (va_Pc av (fun U => (rf_P Dr h0 ρ U.heap ∧ rf_Zs E h0 U) ∧ rf_K Dr U)) := fun a U g mk q => ⟨q.1, ⟨q.2.1.1, q.2.1.2.1, q.2.1.2.2.1, jk_B.moved (u := U) (U := U.calling g mk a) (Vm.Alike.refl U.vm) q.2.1.2.2.2.1, vk_R.same (u := U) rfl q.2.1.2.2.2.2⟩, rf_K.moved (u := U) (U := U.calling g mk a) (Vm.Alike.refl U.vm) q.2.2⟩
theorem lw_BZ (G : lw_H D Dr c0 h0 s σ ρ H locs cells slots) (hK : rf_K Dr s) (hZ : rf_Zs (s.heap, q9, qv9) h0 s) (hcs : s.heap.size = c0 ∧ D.2.2.2.1 = s.heap) : ∀ U : State, U.heap = H → s.WarmedH U.vm → (rf_P Dr h0 ρ U.heap ∧ rf_Zs (s.heap, q9, qv9) h0 U) ∧ rf_K Dr U := fun U hU hW => ⟨⟨by rw [hU]; exact G.2.1, rf_Zs.moved (by
  rw [hU]
  exact ⟨G.1.2.2.2.1.1, fun q hq => G.1.2.2.2.1.2.1 q hq (lw_nA hq hcs.1)⟩) hW hZ⟩, hK.moved hW.alike⟩
set_option maxHeartbeats 4000000 in
theorem lw_case0 {i : Nat} {r : Int32} {σ' : cl_S} {ρ' : rf_S} (C : cl_C D p s m args meth c code 4 ret R_law) (hK : rf_K Dr s) (hZ : rf_Zs (s.heap, q9, qv9) h0 s) (hcs : s.heap.size = c0 ∧ D.2.2.2.1 = s.heap) (hX : va_X b L xs s s.heap) (hbl : b < s.heap.size) (hL : L ≤ 320) (hi : i + 5 ≤ L) (G : lw_H D Dr c0 h0 s σ ρ H locs cells slots) (hl : lv_has ls 4 [(3, .int (nI i)), (2, .ref h0), (1, .ref (c0 + 0)), (0, .ref b)]) (hc : lw_fc 0 (xs (i + 1)) (xs (i + 2)) (xs (i + 3)) (xs (i + 4)) σ = some (r, σ')) (hq : lw_fq 0 (xs (i + 1)) (xs (i + 2)) (xs (i + 3)) (xs (i + 4)) ρ = some (r, ρ')) (kk : ∀ (H : Heap) (locs : List Loc) (cells slots : Nat), lw_H D Dr c0 h0 s σ' ρ' H locs cells slots → W p l e room_1 s m args below meth c H locs cells slots Q (F0 m 1226 ls [])) : W p l e room_1 s m args below meth c H locs cells slots Q (F0 m 184 ls []) := by
  refine lv_aload_n C.1 C.2.1 dL_law_184 rfl (lv_at hl 2 rfl) ?_
  refine lv_aload_n C.1 C.2.1 dL_law_185 rfl (lv_at hl 3 rfl) ?_
  refine lv_iload_n C.1 C.2.1 dL_law_186 rfl (lv_at hl 0 rfl) ?_
  refine lv_iconst (v := (1:Int32)) C.1 C.2.1 dL_law_187 (by decide) ?_
  refine lv_iadd C.1 C.2.1 dL_law_188 ?_
  refine lw_ld C hcs.1 hX hbl G (i := i) (j := 1) (by omega) hL rfl dL_law_189 ?_
  refine lv_i2l C.1 C.2.1 dL_law_190 rfl ?_
  refine lv_bipush (v := (32:Int32)) C.1 C.2.1 dL_law_191 (by decide) ?_
  refine lv_lshl C.1 C.2.1 dL_law_193 rfl ?_
  refine lv_aload_n C.1 C.2.1 dL_law_194 rfl (lv_at hl 3 rfl) ?_
  refine lv_iload_n C.1 C.2.1 dL_law_195 rfl (lv_at hl 0 rfl) ?_
  refine lv_iconst (v := (2:Int32)) C.1 C.2.1 dL_law_196 (by decide) ?_
  refine lv_iadd C.1 C.2.1 dL_law_197 ?_
  refine lw_ld C hcs.1 hX hbl G (i := i) (j := 2) (by omega) hL rfl dL_law_198 ?_
  refine lv_i2l C.1 C.2.1 dL_law_199 rfl ?_
  refine lv_ldc2 (v := (4294967295:Int64)) C.1 C.2.1 C.2.2.2.1 (C.2.2.2.2.1 _ kL_13) dL_law_200 ?_
  refine lv_land C.1 C.2.1 dL_law_203 ?_
  refine lv_lor C.1 C.2.1 dL_law_204 ?_
  refine lv_aload_n C.1 C.2.1 dL_law_205 rfl (lv_at hl 3 rfl) ?_
  refine lv_iload_n C.1 C.2.1 dL_law_206 rfl (lv_at hl 0 rfl) ?_
  refine lv_iconst (v := (3:Int32)) C.1 C.2.1 dL_law_207 (by decide) ?_
  refine lv_iadd C.1 C.2.1 dL_law_208 ?_
  refine lw_ld C hcs.1 hX hbl G (i := i) (j := 3) (by omega) hL rfl dL_law_209 ?_
  refine lw_callC (rest := []) C G lw_c0 [.long (((xs (i + 1)).toInt64 <<< ((32:Int32).toInt64 &&& 63)) ||| ((xs (i + 2)).toInt64 &&& (4294967295:Int64))), .int (xs (i + 3))] _ (kc_X11_type l D c0 (a := 0) G.2.2.2.2.2 hc) (Nat.le_of_ble_eq_true rfl) (Nat.le_of_ble_eq_true rfl) rfl rfl hl.1 (Nat.le_of_ble_eq_true rfl) dL_law_210 (fun H locs cells slots G => ?_)
  refine W.eq (g2 := F0 m 213 ls [.int r]) rfl ?_
  refine lv_aload_n C.1 C.2.1 dL_law_213 rfl (lv_at hl 1 rfl) ?_
  refine lv_aload_n C.1 C.2.1 dL_law_214 rfl (lv_at hl 3 rfl) ?_
  refine lv_iload_n C.1 C.2.1 dL_law_215 rfl (lv_at hl 0 rfl) ?_
  refine lv_iconst (v := (1:Int32)) C.1 C.2.1 dL_law_216 (by decide) ?_
  refine lv_iadd C.1 C.2.1 dL_law_217 ?_
  refine lw_ld C hcs.1 hX hbl G (i := i) (j := 1) (by omega) hL rfl dL_law_218 ?_
  refine lv_i2l C.1 C.2.1 dL_law_219 rfl ?_
  refine lv_bipush (v := (32:Int32)) C.1 C.2.1 dL_law_220 (by decide) ?_
  refine lv_lshl C.1 C.2.1 dL_law_222 rfl ?_
  refine lv_aload_n C.1 C.2.1 dL_law_223 rfl (lv_at hl 3 rfl) ?_
  refine lv_iload_n C.1 C.2.1 dL_law_224 rfl (lv_at hl 0 rfl) ?_
  refine lv_iconst (v := (2:Int32)) C.1 C.2.1 dL_law_225 (by decide) ?_
  refine lv_iadd C.1 C.2.1 dL_law_226 ?_
  refine lw_ld C hcs.1 hX hbl G (i := i) (j := 2) (by omega) hL rfl dL_law_227 ?_
  refine lv_i2l C.1 C.2.1 dL_law_228 rfl ?_
  refine lv_ldc2 (v := (4294967295:Int64)) C.1 C.2.1 C.2.2.2.1 (C.2.2.2.2.1 _ kL_13) dL_law_229 ?_
  refine lv_land C.1 C.2.1 dL_law_232 ?_
  refine lv_lor C.1 C.2.1 dL_law_233 ?_
  refine lv_aload_n C.1 C.2.1 dL_law_234 rfl (lv_at hl 3 rfl) ?_
  refine lv_iload_n C.1 C.2.1 dL_law_235 rfl (lv_at hl 0 rfl) ?_
  refine lv_iconst (v := (3:Int32)) C.1 C.2.1 dL_law_236 (by decide) ?_
  refine lv_iadd C.1 C.2.1 dL_law_237 ?_
  refine lw_ld C hcs.1 hX hbl G (i := i) (j := 3) (by omega) hL rfl dL_law_238 ?_
  refine lw_callR (rest := [.int r]) C hK hcs G lw_q0 [.long (((xs (i + 1)).toInt64 <<< ((32:Int32).toInt64 &&& 63)) ||| ((xs (i + 2)).toInt64 &&& (4294967295:Int64))), .int (xs (i + 3))] _ (kq_type l Dr h0 hq) rf_blind (lw_BR G hK) (Nat.le_of_ble_eq_true rfl) (Nat.le_of_ble_eq_true rfl) rfl rfl hl.1 (Nat.le_of_ble_eq_true rfl) dL_law_239 (fun H locs G => ?_)
  refine W.eq (g2 := F0 m 242 ls [.int r, .int r]) rfl ?_
  refine lv_icmp_eq (tgt := 1226) C.1 C.2.1 dL_law_242 (by decide) (fun _ => kk _ _ _ _ G) (fun hc => absurd rfl hc)
set_option maxHeartbeats 4000000 in
theorem lw_case1 {i : Nat} {r : Int32} {σ' : cl_S} {ρ' : rf_S} (C : cl_C D p s m args meth c code 4 ret R_law) (hK : rf_K Dr s) (hZ : rf_Zs (s.heap, q9, qv9) h0 s) (hcs : s.heap.size = c0 ∧ D.2.2.2.1 = s.heap) (hX : va_X b L xs s s.heap) (hbl : b < s.heap.size) (hL : L ≤ 320) (hi : i + 5 ≤ L) (G : lw_H D Dr c0 h0 s σ ρ H locs cells slots) (hl : lv_has ls 4 [(3, .int (nI i)), (2, .ref h0), (1, .ref (c0 + 0)), (0, .ref b)]) (hc : lw_fc 1 (xs (i + 1)) (xs (i + 2)) (xs (i + 3)) (xs (i + 4)) σ = some (r, σ')) (hq : lw_fq 1 (xs (i + 1)) (xs (i + 2)) (xs (i + 3)) (xs (i + 4)) ρ = some (r, ρ')) (kk : ∀ (H : Heap) (locs : List Loc) (cells slots : Nat), lw_H D Dr c0 h0 s σ' ρ' H locs cells slots → W p l e room_1 s m args below meth c H locs cells slots Q (F0 m 1226 ls [])) : W p l e room_1 s m args below meth c H locs cells slots Q (F0 m 247 ls []) := by
  refine lv_aload_n C.1 C.2.1 dL_law_247 rfl (lv_at hl 2 rfl) ?_
  refine lw_callC (rest := []) C G lw_c1 [] _ (kc_X11_assemble l D c0 (a := 0) G.2.2.2.2.2 hc) (Nat.le_of_ble_eq_true rfl) (Nat.le_of_ble_eq_true rfl) rfl rfl hl.1 (Nat.le_of_ble_eq_true rfl) dL_law_248 (fun H locs cells slots G => ?_)
  refine W.eq (g2 := F0 m 251 ls [.int r]) rfl ?_
  refine lv_aload_n C.1 C.2.1 dL_law_251 rfl (lv_at hl 1 rfl) ?_
  refine lw_callR (rest := [.int r]) C hK hcs G lw_q1 [] _ (kq_assemble l Dr h0 hq) rf_blind (lw_BR G hK) (Nat.le_of_ble_eq_true rfl) (Nat.le_of_ble_eq_true rfl) rfl rfl hl.1 (Nat.le_of_ble_eq_true rfl) dL_law_252 (fun H locs G => ?_)
  refine W.eq (g2 := F0 m 255 ls [.int r, .int r]) rfl ?_
  refine lv_icmp_eq (tgt := 1226) C.1 C.2.1 dL_law_255 (by decide) (fun _ => kk _ _ _ _ G) (fun hc => absurd rfl hc)
set_option maxHeartbeats 4000000 in
theorem lw_case2 {i : Nat} {r : Int32} {σ' : cl_S} {ρ' : rf_S} (C : cl_C D p s m args meth c code 4 ret R_law) (hK : rf_K Dr s) (hZ : rf_Zs (s.heap, q9, qv9) h0 s) (hcs : s.heap.size = c0 ∧ D.2.2.2.1 = s.heap) (hX : va_X b L xs s s.heap) (hbl : b < s.heap.size) (hL : L ≤ 320) (hi : i + 5 ≤ L) (G : lw_H D Dr c0 h0 s σ ρ H locs cells slots) (hl : lv_has ls 4 [(3, .int (nI i)), (2, .ref h0), (1, .ref (c0 + 0)), (0, .ref b)]) (hc : lw_fc 2 (xs (i + 1)) (xs (i + 2)) (xs (i + 3)) (xs (i + 4)) σ = some (r, σ')) (hq : lw_fq 2 (xs (i + 1)) (xs (i + 2)) (xs (i + 3)) (xs (i + 4)) ρ = some (r, ρ')) (kk : ∀ (H : Heap) (locs : List Loc) (cells slots : Nat), lw_H D Dr c0 h0 s σ' ρ' H locs cells slots → W p l e room_1 s m args below meth c H locs cells slots Q (F0 m 1226 ls [])) : W p l e room_1 s m args below meth c H locs cells slots Q (F0 m 260 ls []) := by
  refine lv_aload_n C.1 C.2.1 dL_law_260 rfl (lv_at hl 2 rfl) ?_
  refine lw_callC (rest := []) C G lw_c2 [] _ (kc_X11_place l D c0 (a := 0) G.2.2.2.2.2 hc) (Nat.le_of_ble_eq_true rfl) (Nat.le_of_ble_eq_true rfl) rfl rfl hl.1 (Nat.le_of_ble_eq_true rfl) dL_law_261 (fun H locs cells slots G => ?_)
  refine W.eq (g2 := F0 m 264 ls [.int r]) rfl ?_
  refine lv_aload_n C.1 C.2.1 dL_law_264 rfl (lv_at hl 1 rfl) ?_
  refine lw_callR (rest := [.int r]) C hK hcs G lw_q2 [] _ (kq_place l Dr h0 hq) rf_blind (lw_BR G hK) (Nat.le_of_ble_eq_true rfl) (Nat.le_of_ble_eq_true rfl) rfl rfl hl.1 (Nat.le_of_ble_eq_true rfl) dL_law_265 (fun H locs G => ?_)
  refine W.eq (g2 := F0 m 268 ls [.int r, .int r]) rfl ?_
  refine lv_icmp_eq (tgt := 1226) C.1 C.2.1 dL_law_268 (by decide) (fun _ => kk _ _ _ _ G) (fun hc => absurd rfl hc)
set_option maxHeartbeats 4000000 in
theorem lw_case3 {i : Nat} {r : Int32} {σ' : cl_S} {ρ' : rf_S} (C : cl_C D p s m args meth c code 4 ret R_law) (hK : rf_K Dr s) (hZ : rf_Zs (s.heap, q9, qv9) h0 s) (hcs : s.heap.size = c0 ∧ D.2.2.2.1 = s.heap) (hX : va_X b L xs s s.heap) (hbl : b < s.heap.size) (hL : L ≤ 320) (hi : i + 5 ≤ L) (G : lw_H D Dr c0 h0 s σ ρ H locs cells slots) (hl : lv_has ls 4 [(3, .int (nI i)), (2, .ref h0), (1, .ref (c0 + 0)), (0, .ref b)]) (hc : lw_fc 3 (xs (i + 1)) (xs (i + 2)) (xs (i + 3)) (xs (i + 4)) σ = some (r, σ')) (hq : lw_fq 3 (xs (i + 1)) (xs (i + 2)) (xs (i + 3)) (xs (i + 4)) ρ = some (r, ρ')) (kk : ∀ (H : Heap) (locs : List Loc) (cells slots : Nat), lw_H D Dr c0 h0 s σ' ρ' H locs cells slots → W p l e room_1 s m args below meth c H locs cells slots Q (F0 m 1226 ls [])) : W p l e room_1 s m args below meth c H locs cells slots Q (F0 m 273 ls []) := by
  refine lv_aload_n C.1 C.2.1 dL_law_273 rfl (lv_at hl 2 rfl) ?_
  refine lv_aload_n C.1 C.2.1 dL_law_274 rfl (lv_at hl 3 rfl) ?_
  refine lv_iload_n C.1 C.2.1 dL_law_275 rfl (lv_at hl 0 rfl) ?_
  refine lv_iconst (v := (1:Int32)) C.1 C.2.1 dL_law_276 (by decide) ?_
  refine lv_iadd C.1 C.2.1 dL_law_277 ?_
  refine lw_ld C hcs.1 hX hbl G (i := i) (j := 1) (by omega) hL rfl dL_law_278 ?_
  refine lv_aload_n C.1 C.2.1 dL_law_279 rfl (lv_at hl 3 rfl) ?_
  refine lv_iload_n C.1 C.2.1 dL_law_280 rfl (lv_at hl 0 rfl) ?_
  refine lv_iconst (v := (2:Int32)) C.1 C.2.1 dL_law_281 (by decide) ?_
  refine lv_iadd C.1 C.2.1 dL_law_282 ?_
  refine lw_ld C hcs.1 hX hbl G (i := i) (j := 2) (by omega) hL rfl dL_law_283 ?_
  refine lv_aload_n C.1 C.2.1 dL_law_284 rfl (lv_at hl 3 rfl) ?_
  refine lv_iload_n C.1 C.2.1 dL_law_285 rfl (lv_at hl 0 rfl) ?_
  refine lv_iconst (v := (3:Int32)) C.1 C.2.1 dL_law_286 (by decide) ?_
  refine lv_iadd C.1 C.2.1 dL_law_287 ?_
  refine lw_ld C hcs.1 hX hbl G (i := i) (j := 3) (by omega) hL rfl dL_law_288 ?_
  refine lv_aload_n C.1 C.2.1 dL_law_289 rfl (lv_at hl 3 rfl) ?_
  refine lv_iload_n C.1 C.2.1 dL_law_290 rfl (lv_at hl 0 rfl) ?_
  refine lv_iconst (v := (4:Int32)) C.1 C.2.1 dL_law_291 (by decide) ?_
  refine lv_iadd C.1 C.2.1 dL_law_292 ?_
  refine lw_ld C hcs.1 hX hbl G (i := i) (j := 4) (by omega) hL rfl dL_law_293 ?_
  refine lw_callC (rest := []) C G lw_c3 [.int (xs (i + 1)), .int (xs (i + 2)), .int (xs (i + 3)), .int (xs (i + 4))] _ (kc_X11_feed l D c0 (a := 0) G.2.2.2.2.2 hc) (Nat.le_of_ble_eq_true rfl) (Nat.le_of_ble_eq_true rfl) rfl rfl hl.1 (Nat.le_of_ble_eq_true rfl) dL_law_294 (fun H locs cells slots G => ?_)
  refine W.eq (g2 := F0 m 297 ls [.int r]) rfl ?_
  refine lv_aload_n C.1 C.2.1 dL_law_297 rfl (lv_at hl 1 rfl) ?_
  refine lv_aload_n C.1 C.2.1 dL_law_298 rfl (lv_at hl 3 rfl) ?_
  refine lv_iload_n C.1 C.2.1 dL_law_299 rfl (lv_at hl 0 rfl) ?_
  refine lv_iconst (v := (1:Int32)) C.1 C.2.1 dL_law_300 (by decide) ?_
  refine lv_iadd C.1 C.2.1 dL_law_301 ?_
  refine lw_ld C hcs.1 hX hbl G (i := i) (j := 1) (by omega) hL rfl dL_law_302 ?_
  refine lv_aload_n C.1 C.2.1 dL_law_303 rfl (lv_at hl 3 rfl) ?_
  refine lv_iload_n C.1 C.2.1 dL_law_304 rfl (lv_at hl 0 rfl) ?_
  refine lv_iconst (v := (2:Int32)) C.1 C.2.1 dL_law_305 (by decide) ?_
  refine lv_iadd C.1 C.2.1 dL_law_306 ?_
  refine lw_ld C hcs.1 hX hbl G (i := i) (j := 2) (by omega) hL rfl dL_law_307 ?_
  refine lv_aload_n C.1 C.2.1 dL_law_308 rfl (lv_at hl 3 rfl) ?_
  refine lv_iload_n C.1 C.2.1 dL_law_309 rfl (lv_at hl 0 rfl) ?_
  refine lv_iconst (v := (3:Int32)) C.1 C.2.1 dL_law_310 (by decide) ?_
  refine lv_iadd C.1 C.2.1 dL_law_311 ?_
  refine lw_ld C hcs.1 hX hbl G (i := i) (j := 3) (by omega) hL rfl dL_law_312 ?_
  refine lv_aload_n C.1 C.2.1 dL_law_313 rfl (lv_at hl 3 rfl) ?_
  refine lv_iload_n C.1 C.2.1 dL_law_314 rfl (lv_at hl 0 rfl) ?_
  refine lv_iconst (v := (4:Int32)) C.1 C.2.1 dL_law_315 (by decide) ?_
  refine lv_iadd C.1 C.2.1 dL_law_316 ?_
  refine lw_ld C hcs.1 hX hbl G (i := i) (j := 4) (by omega) hL rfl dL_law_317 ?_
  refine lw_callR (rest := [.int r]) C hK hcs G lw_q3 [.int (xs (i + 1)), .int (xs (i + 2)), .int (xs (i + 3)), .int (xs (i + 4))] _ (kq_feed l Dr h0 hq) rf_blind (lw_BR G hK) (Nat.le_of_ble_eq_true rfl) (Nat.le_of_ble_eq_true rfl) rfl rfl hl.1 (Nat.le_of_ble_eq_true rfl) dL_law_318 (fun H locs G => ?_)
  refine W.eq (g2 := F0 m 321 ls [.int r, .int r]) rfl ?_
  refine lv_icmp_eq (tgt := 1226) C.1 C.2.1 dL_law_321 (by decide) (fun _ => kk _ _ _ _ G) (fun hc => absurd rfl hc)
set_option maxHeartbeats 4000000 in
theorem lw_case4 {i : Nat} {r : Int32} {σ' : cl_S} {ρ' : rf_S} (C : cl_C D p s m args meth c code 4 ret R_law) (hK : rf_K Dr s) (hZ : rf_Zs (s.heap, q9, qv9) h0 s) (hcs : s.heap.size = c0 ∧ D.2.2.2.1 = s.heap) (hX : va_X b L xs s s.heap) (hbl : b < s.heap.size) (hL : L ≤ 320) (hi : i + 5 ≤ L) (G : lw_H D Dr c0 h0 s σ ρ H locs cells slots) (hl : lv_has ls 4 [(3, .int (nI i)), (2, .ref h0), (1, .ref (c0 + 0)), (0, .ref b)]) (hc : lw_fc 4 (xs (i + 1)) (xs (i + 2)) (xs (i + 3)) (xs (i + 4)) σ = some (r, σ')) (hq : lw_fq 4 (xs (i + 1)) (xs (i + 2)) (xs (i + 3)) (xs (i + 4)) ρ = some (r, ρ')) (kk : ∀ (H : Heap) (locs : List Loc) (cells slots : Nat), lw_H D Dr c0 h0 s σ' ρ' H locs cells slots → W p l e room_1 s m args below meth c H locs cells slots Q (F0 m 1226 ls [])) : W p l e room_1 s m args below meth c H locs cells slots Q (F0 m 326 ls []) := by
  refine lv_aload_n C.1 C.2.1 dL_law_326 rfl (lv_at hl 2 rfl) ?_
  refine lv_aload_n C.1 C.2.1 dL_law_327 rfl (lv_at hl 3 rfl) ?_
  refine lv_iload_n C.1 C.2.1 dL_law_328 rfl (lv_at hl 0 rfl) ?_
  refine lv_iconst (v := (1:Int32)) C.1 C.2.1 dL_law_329 (by decide) ?_
  refine lv_iadd C.1 C.2.1 dL_law_330 ?_
  refine lw_ld C hcs.1 hX hbl G (i := i) (j := 1) (by omega) hL rfl dL_law_331 ?_
  refine lw_callC (rest := []) C G lw_c4 [.int (xs (i + 1))] _ (kc_X11_show l D c0 (a := 0) G.2.2.2.2.2 hc) (Nat.le_of_ble_eq_true rfl) (Nat.le_of_ble_eq_true rfl) rfl rfl hl.1 (Nat.le_of_ble_eq_true rfl) dL_law_332 (fun H locs cells slots G => ?_)
  refine W.eq (g2 := F0 m 335 ls [.int r]) rfl ?_
  refine lv_aload_n C.1 C.2.1 dL_law_335 rfl (lv_at hl 1 rfl) ?_
  refine lv_aload_n C.1 C.2.1 dL_law_336 rfl (lv_at hl 3 rfl) ?_
  refine lv_iload_n C.1 C.2.1 dL_law_337 rfl (lv_at hl 0 rfl) ?_
  refine lv_iconst (v := (1:Int32)) C.1 C.2.1 dL_law_338 (by decide) ?_
  refine lv_iadd C.1 C.2.1 dL_law_339 ?_
  refine lw_ld C hcs.1 hX hbl G (i := i) (j := 1) (by omega) hL rfl dL_law_340 ?_
  refine lw_callR (rest := [.int r]) C hK hcs G lw_q4 [.int (xs (i + 1))] _ (kq_show l Dr (s.heap, q9, qv9) h0 hq) lw_blZ (lw_BZ G hK hZ hcs) (Nat.le_of_ble_eq_true rfl) (Nat.le_of_ble_eq_true rfl) rfl rfl hl.1 (Nat.le_of_ble_eq_true rfl) dL_law_341 (fun H locs G => ?_)
  refine W.eq (g2 := F0 m 344 ls [.int r, .int r]) rfl ?_
  refine lv_icmp_eq (tgt := 1226) C.1 C.2.1 dL_law_344 (by decide) (fun _ => kk _ _ _ _ G) (fun hc => absurd rfl hc)
set_option maxHeartbeats 4000000 in
theorem lw_case5 {i : Nat} {r : Int32} {σ' : cl_S} {ρ' : rf_S} (C : cl_C D p s m args meth c code 4 ret R_law) (hK : rf_K Dr s) (hZ : rf_Zs (s.heap, q9, qv9) h0 s) (hcs : s.heap.size = c0 ∧ D.2.2.2.1 = s.heap) (hX : va_X b L xs s s.heap) (hbl : b < s.heap.size) (hL : L ≤ 320) (hi : i + 5 ≤ L) (G : lw_H D Dr c0 h0 s σ ρ H locs cells slots) (hl : lv_has ls 4 [(3, .int (nI i)), (2, .ref h0), (1, .ref (c0 + 0)), (0, .ref b)]) (hc : lw_fc 5 (xs (i + 1)) (xs (i + 2)) (xs (i + 3)) (xs (i + 4)) σ = some (r, σ')) (hq : lw_fq 5 (xs (i + 1)) (xs (i + 2)) (xs (i + 3)) (xs (i + 4)) ρ = some (r, ρ')) (kk : ∀ (H : Heap) (locs : List Loc) (cells slots : Nat), lw_H D Dr c0 h0 s σ' ρ' H locs cells slots → W p l e room_1 s m args below meth c H locs cells slots Q (F0 m 1226 ls [])) : W p l e room_1 s m args below meth c H locs cells slots Q (F0 m 349 ls []) := by
  refine lv_aload_n C.1 C.2.1 dL_law_349 rfl (lv_at hl 2 rfl) ?_
  refine lv_aload_n C.1 C.2.1 dL_law_350 rfl (lv_at hl 3 rfl) ?_
  refine lv_iload_n C.1 C.2.1 dL_law_351 rfl (lv_at hl 0 rfl) ?_
  refine lv_iconst (v := (1:Int32)) C.1 C.2.1 dL_law_352 (by decide) ?_
  refine lv_iadd C.1 C.2.1 dL_law_353 ?_
  refine lw_ld C hcs.1 hX hbl G (i := i) (j := 1) (by omega) hL rfl dL_law_354 ?_
  refine lw_callC (rest := []) C G lw_c5 [.int (xs (i + 1))] _ (kc_X11_shown l D c0 (a := 0) G.2.2.2.2.2 hc) (Nat.le_of_ble_eq_true rfl) (Nat.le_of_ble_eq_true rfl) rfl rfl hl.1 (Nat.le_of_ble_eq_true rfl) dL_law_355 (fun H locs cells slots G => ?_)
  refine W.eq (g2 := F0 m 358 ls [.int r]) rfl ?_
  refine lv_aload_n C.1 C.2.1 dL_law_358 rfl (lv_at hl 1 rfl) ?_
  refine lv_aload_n C.1 C.2.1 dL_law_359 rfl (lv_at hl 3 rfl) ?_
  refine lv_iload_n C.1 C.2.1 dL_law_360 rfl (lv_at hl 0 rfl) ?_
  refine lv_iconst (v := (1:Int32)) C.1 C.2.1 dL_law_361 (by decide) ?_
  refine lv_iadd C.1 C.2.1 dL_law_362 ?_
  refine lw_ld C hcs.1 hX hbl G (i := i) (j := 1) (by omega) hL rfl dL_law_363 ?_
  refine lw_callR (rest := [.int r]) C hK hcs G lw_q5 [.int (xs (i + 1))] _ (kq_shown l Dr h0 hq) rf_blind (lw_BR G hK) (Nat.le_of_ble_eq_true rfl) (Nat.le_of_ble_eq_true rfl) rfl rfl hl.1 (Nat.le_of_ble_eq_true rfl) dL_law_364 (fun H locs G => ?_)
  refine W.eq (g2 := F0 m 367 ls [.int r, .int r]) rfl ?_
  refine lv_icmp_eq (tgt := 1226) C.1 C.2.1 dL_law_367 (by decide) (fun _ => kk _ _ _ _ G) (fun hc => absurd rfl hc)
set_option maxHeartbeats 4000000 in
theorem lw_case6 {i : Nat} {r : Int32} {σ' : cl_S} {ρ' : rf_S} (C : cl_C D p s m args meth c code 4 ret R_law) (hK : rf_K Dr s) (hZ : rf_Zs (s.heap, q9, qv9) h0 s) (hcs : s.heap.size = c0 ∧ D.2.2.2.1 = s.heap) (hX : va_X b L xs s s.heap) (hbl : b < s.heap.size) (hL : L ≤ 320) (hi : i + 5 ≤ L) (G : lw_H D Dr c0 h0 s σ ρ H locs cells slots) (hl : lv_has ls 4 [(3, .int (nI i)), (2, .ref h0), (1, .ref (c0 + 0)), (0, .ref b)]) (hc : lw_fc 6 (xs (i + 1)) (xs (i + 2)) (xs (i + 3)) (xs (i + 4)) σ = some (r, σ')) (hq : lw_fq 6 (xs (i + 1)) (xs (i + 2)) (xs (i + 3)) (xs (i + 4)) ρ = some (r, ρ')) (kk : ∀ (H : Heap) (locs : List Loc) (cells slots : Nat), lw_H D Dr c0 h0 s σ' ρ' H locs cells slots → W p l e room_1 s m args below meth c H locs cells slots Q (F0 m 1226 ls [])) : W p l e room_1 s m args below meth c H locs cells slots Q (F0 m 372 ls []) := by
  refine lv_aload_n C.1 C.2.1 dL_law_372 rfl (lv_at hl 2 rfl) ?_
  refine lv_aload_n C.1 C.2.1 dL_law_373 rfl (lv_at hl 3 rfl) ?_
  refine lv_iload_n C.1 C.2.1 dL_law_374 rfl (lv_at hl 0 rfl) ?_
  refine lv_iconst (v := (1:Int32)) C.1 C.2.1 dL_law_375 (by decide) ?_
  refine lv_iadd C.1 C.2.1 dL_law_376 ?_
  refine lw_ld C hcs.1 hX hbl G (i := i) (j := 1) (by omega) hL rfl dL_law_377 ?_
  refine lw_callC (rest := []) C G lw_c6 [.int (xs (i + 1))] _ (kc_X11_drop l D c0 (a := 0) G.2.2.2.2.2 hc) (Nat.le_of_ble_eq_true rfl) (Nat.le_of_ble_eq_true rfl) rfl rfl hl.1 (Nat.le_of_ble_eq_true rfl) dL_law_378 (fun H locs cells slots G => ?_)
  refine W.eq (g2 := F0 m 381 ls [.int r]) rfl ?_
  refine lv_aload_n C.1 C.2.1 dL_law_381 rfl (lv_at hl 1 rfl) ?_
  refine lv_aload_n C.1 C.2.1 dL_law_382 rfl (lv_at hl 3 rfl) ?_
  refine lv_iload_n C.1 C.2.1 dL_law_383 rfl (lv_at hl 0 rfl) ?_
  refine lv_iconst (v := (1:Int32)) C.1 C.2.1 dL_law_384 (by decide) ?_
  refine lv_iadd C.1 C.2.1 dL_law_385 ?_
  refine lw_ld C hcs.1 hX hbl G (i := i) (j := 1) (by omega) hL rfl dL_law_386 ?_
  refine lw_callR (rest := [.int r]) C hK hcs G lw_q6 [.int (xs (i + 1))] _ (kq_drop l Dr h0 hq) rf_blind (lw_BR G hK) (Nat.le_of_ble_eq_true rfl) (Nat.le_of_ble_eq_true rfl) rfl rfl hl.1 (Nat.le_of_ble_eq_true rfl) dL_law_387 (fun H locs G => ?_)
  refine W.eq (g2 := F0 m 390 ls [.int r, .int r]) rfl ?_
  refine lv_icmp_eq (tgt := 1226) C.1 C.2.1 dL_law_390 (by decide) (fun _ => kk _ _ _ _ G) (fun hc => absurd rfl hc)
set_option maxHeartbeats 4000000 in
theorem lw_case7 {i : Nat} {r : Int32} {σ' : cl_S} {ρ' : rf_S} (C : cl_C D p s m args meth c code 4 ret R_law) (hK : rf_K Dr s) (hZ : rf_Zs (s.heap, q9, qv9) h0 s) (hcs : s.heap.size = c0 ∧ D.2.2.2.1 = s.heap) (hX : va_X b L xs s s.heap) (hbl : b < s.heap.size) (hL : L ≤ 320) (hi : i + 5 ≤ L) (G : lw_H D Dr c0 h0 s σ ρ H locs cells slots) (hl : lv_has ls 4 [(3, .int (nI i)), (2, .ref h0), (1, .ref (c0 + 0)), (0, .ref b)]) (hc : lw_fc 7 (xs (i + 1)) (xs (i + 2)) (xs (i + 3)) (xs (i + 4)) σ = some (r, σ')) (hq : lw_fq 7 (xs (i + 1)) (xs (i + 2)) (xs (i + 3)) (xs (i + 4)) ρ = some (r, ρ')) (kk : ∀ (H : Heap) (locs : List Loc) (cells slots : Nat), lw_H D Dr c0 h0 s σ' ρ' H locs cells slots → W p l e room_1 s m args below meth c H locs cells slots Q (F0 m 1226 ls [])) : W p l e room_1 s m args below meth c H locs cells slots Q (F0 m 395 ls []) := by
  refine lv_aload_n C.1 C.2.1 dL_law_395 rfl (lv_at hl 2 rfl) ?_
  refine lv_aload_n C.1 C.2.1 dL_law_396 rfl (lv_at hl 3 rfl) ?_
  refine lv_iload_n C.1 C.2.1 dL_law_397 rfl (lv_at hl 0 rfl) ?_
  refine lv_iconst (v := (1:Int32)) C.1 C.2.1 dL_law_398 (by decide) ?_
  refine lv_iadd C.1 C.2.1 dL_law_399 ?_
  refine lw_ld C hcs.1 hX hbl G (i := i) (j := 1) (by omega) hL rfl dL_law_400 ?_
  refine lw_callC (rest := []) C G lw_c7 [.int (xs (i + 1))] _ (kc_X11_word l D c0 (a := 0) G.2.2.2.2.2 hc) (Nat.le_of_ble_eq_true rfl) (Nat.le_of_ble_eq_true rfl) rfl rfl hl.1 (Nat.le_of_ble_eq_true rfl) dL_law_401 (fun H locs cells slots G => ?_)
  refine W.eq (g2 := F0 m 404 ls [.int r]) rfl ?_
  refine lv_aload_n C.1 C.2.1 dL_law_404 rfl (lv_at hl 1 rfl) ?_
  refine lv_aload_n C.1 C.2.1 dL_law_405 rfl (lv_at hl 3 rfl) ?_
  refine lv_iload_n C.1 C.2.1 dL_law_406 rfl (lv_at hl 0 rfl) ?_
  refine lv_iconst (v := (1:Int32)) C.1 C.2.1 dL_law_407 (by decide) ?_
  refine lv_iadd C.1 C.2.1 dL_law_408 ?_
  refine lw_ld C hcs.1 hX hbl G (i := i) (j := 1) (by omega) hL rfl dL_law_409 ?_
  refine lw_callR (rest := [.int r]) C hK hcs G lw_q7 [.int (xs (i + 1))] _ (kq_word l Dr h0 hq) rf_blind (lw_BR G hK) (Nat.le_of_ble_eq_true rfl) (Nat.le_of_ble_eq_true rfl) rfl rfl hl.1 (Nat.le_of_ble_eq_true rfl) dL_law_410 (fun H locs G => ?_)
  refine W.eq (g2 := F0 m 413 ls [.int r, .int r]) rfl ?_
  refine lv_icmp_eq (tgt := 1226) C.1 C.2.1 dL_law_413 (by decide) (fun _ => kk _ _ _ _ G) (fun hc => absurd rfl hc)
set_option maxHeartbeats 4000000 in
theorem lw_case8 {i : Nat} {r : Int32} {σ' : cl_S} {ρ' : rf_S} (C : cl_C D p s m args meth c code 4 ret R_law) (hK : rf_K Dr s) (hZ : rf_Zs (s.heap, q9, qv9) h0 s) (hcs : s.heap.size = c0 ∧ D.2.2.2.1 = s.heap) (hX : va_X b L xs s s.heap) (hbl : b < s.heap.size) (hL : L ≤ 320) (hi : i + 5 ≤ L) (G : lw_H D Dr c0 h0 s σ ρ H locs cells slots) (hl : lv_has ls 4 [(3, .int (nI i)), (2, .ref h0), (1, .ref (c0 + 0)), (0, .ref b)]) (hc : lw_fc 8 (xs (i + 1)) (xs (i + 2)) (xs (i + 3)) (xs (i + 4)) σ = some (r, σ')) (hq : lw_fq 8 (xs (i + 1)) (xs (i + 2)) (xs (i + 3)) (xs (i + 4)) ρ = some (r, ρ')) (kk : ∀ (H : Heap) (locs : List Loc) (cells slots : Nat), lw_H D Dr c0 h0 s σ' ρ' H locs cells slots → W p l e room_1 s m args below meth c H locs cells slots Q (F0 m 1226 ls [])) : W p l e room_1 s m args below meth c H locs cells slots Q (F0 m 418 ls []) := by
  refine lv_aload_n C.1 C.2.1 dL_law_418 rfl (lv_at hl 2 rfl) ?_
  refine lv_aload_n C.1 C.2.1 dL_law_419 rfl (lv_at hl 3 rfl) ?_
  refine lv_iload_n C.1 C.2.1 dL_law_420 rfl (lv_at hl 0 rfl) ?_
  refine lv_iconst (v := (1:Int32)) C.1 C.2.1 dL_law_421 (by decide) ?_
  refine lv_iadd C.1 C.2.1 dL_law_422 ?_
  refine lw_ld C hcs.1 hX hbl G (i := i) (j := 1) (by omega) hL rfl dL_law_423 ?_
  refine lw_callC (rest := []) C G lw_c8 [.int (xs (i + 1))] _ (kc_X11_keep l D c0 (a := 0) G.2.2.2.2.2 hc) (Nat.le_of_ble_eq_true rfl) (Nat.le_of_ble_eq_true rfl) rfl rfl hl.1 (Nat.le_of_ble_eq_true rfl) dL_law_424 (fun H locs cells slots G => ?_)
  refine W.eq (g2 := F0 m 427 ls [.int r]) rfl ?_
  refine lv_aload_n C.1 C.2.1 dL_law_427 rfl (lv_at hl 1 rfl) ?_
  refine lv_aload_n C.1 C.2.1 dL_law_428 rfl (lv_at hl 3 rfl) ?_
  refine lv_iload_n C.1 C.2.1 dL_law_429 rfl (lv_at hl 0 rfl) ?_
  refine lv_iconst (v := (1:Int32)) C.1 C.2.1 dL_law_430 (by decide) ?_
  refine lv_iadd C.1 C.2.1 dL_law_431 ?_
  refine lw_ld C hcs.1 hX hbl G (i := i) (j := 1) (by omega) hL rfl dL_law_432 ?_
  refine lw_callR (rest := [.int r]) C hK hcs G lw_q8 [.int (xs (i + 1))] _ (kq_keep l Dr h0 hq) rf_blind (lw_BR G hK) (Nat.le_of_ble_eq_true rfl) (Nat.le_of_ble_eq_true rfl) rfl rfl hl.1 (Nat.le_of_ble_eq_true rfl) dL_law_433 (fun H locs G => ?_)
  refine W.eq (g2 := F0 m 436 ls [.int r, .int r]) rfl ?_
  refine lv_icmp_eq (tgt := 1226) C.1 C.2.1 dL_law_436 (by decide) (fun _ => kk _ _ _ _ G) (fun hc => absurd rfl hc)
set_option maxHeartbeats 4000000 in
theorem lw_case9 {i : Nat} {r : Int32} {σ' : cl_S} {ρ' : rf_S} (C : cl_C D p s m args meth c code 4 ret R_law) (hK : rf_K Dr s) (hZ : rf_Zs (s.heap, q9, qv9) h0 s) (hcs : s.heap.size = c0 ∧ D.2.2.2.1 = s.heap) (hX : va_X b L xs s s.heap) (hbl : b < s.heap.size) (hL : L ≤ 320) (hi : i + 5 ≤ L) (G : lw_H D Dr c0 h0 s σ ρ H locs cells slots) (hl : lv_has ls 4 [(3, .int (nI i)), (2, .ref h0), (1, .ref (c0 + 0)), (0, .ref b)]) (hc : lw_fc 9 (xs (i + 1)) (xs (i + 2)) (xs (i + 3)) (xs (i + 4)) σ = some (r, σ')) (hq : lw_fq 9 (xs (i + 1)) (xs (i + 2)) (xs (i + 3)) (xs (i + 4)) ρ = some (r, ρ')) (kk : ∀ (H : Heap) (locs : List Loc) (cells slots : Nat), lw_H D Dr c0 h0 s σ' ρ' H locs cells slots → W p l e room_1 s m args below meth c H locs cells slots Q (F0 m 1226 ls [])) : W p l e room_1 s m args below meth c H locs cells slots Q (F0 m 441 ls []) := by
  refine lv_aload_n C.1 C.2.1 dL_law_441 rfl (lv_at hl 2 rfl) ?_
  refine lv_aload_n C.1 C.2.1 dL_law_442 rfl (lv_at hl 3 rfl) ?_
  refine lv_iload_n C.1 C.2.1 dL_law_443 rfl (lv_at hl 0 rfl) ?_
  refine lv_iconst (v := (1:Int32)) C.1 C.2.1 dL_law_444 (by decide) ?_
  refine lv_iadd C.1 C.2.1 dL_law_445 ?_
  refine lw_ld C hcs.1 hX hbl G (i := i) (j := 1) (by omega) hL rfl dL_law_446 ?_
  refine lv_aload_n C.1 C.2.1 dL_law_447 rfl (lv_at hl 3 rfl) ?_
  refine lv_iload_n C.1 C.2.1 dL_law_448 rfl (lv_at hl 0 rfl) ?_
  refine lv_iconst (v := (2:Int32)) C.1 C.2.1 dL_law_449 (by decide) ?_
  refine lv_iadd C.1 C.2.1 dL_law_450 ?_
  refine lw_ld C hcs.1 hX hbl G (i := i) (j := 2) (by omega) hL rfl dL_law_451 ?_
  refine lw_callC (rest := []) C G lw_c9 [.int (xs (i + 1)), .int (xs (i + 2))] _ (kc_X11_safe l D c0 (a := 0) G.2.2.2.2.2 hc) (Nat.le_of_ble_eq_true rfl) (Nat.le_of_ble_eq_true rfl) rfl rfl hl.1 (Nat.le_of_ble_eq_true rfl) dL_law_452 (fun H locs cells slots G => ?_)
  refine W.eq (g2 := F0 m 455 ls [.int r]) rfl ?_
  refine lv_aload_n C.1 C.2.1 dL_law_455 rfl (lv_at hl 1 rfl) ?_
  refine lv_aload_n C.1 C.2.1 dL_law_456 rfl (lv_at hl 3 rfl) ?_
  refine lv_iload_n C.1 C.2.1 dL_law_457 rfl (lv_at hl 0 rfl) ?_
  refine lv_iconst (v := (1:Int32)) C.1 C.2.1 dL_law_458 (by decide) ?_
  refine lv_iadd C.1 C.2.1 dL_law_459 ?_
  refine lw_ld C hcs.1 hX hbl G (i := i) (j := 1) (by omega) hL rfl dL_law_460 ?_
  refine lv_aload_n C.1 C.2.1 dL_law_461 rfl (lv_at hl 3 rfl) ?_
  refine lv_iload_n C.1 C.2.1 dL_law_462 rfl (lv_at hl 0 rfl) ?_
  refine lv_iconst (v := (2:Int32)) C.1 C.2.1 dL_law_463 (by decide) ?_
  refine lv_iadd C.1 C.2.1 dL_law_464 ?_
  refine lw_ld C hcs.1 hX hbl G (i := i) (j := 2) (by omega) hL rfl dL_law_465 ?_
  refine lw_callR (rest := [.int r]) C hK hcs G lw_q9 [.int (xs (i + 1)), .int (xs (i + 2))] _ (kq_safe l Dr h0 hq) rf_blind (lw_BR G hK) (Nat.le_of_ble_eq_true rfl) (Nat.le_of_ble_eq_true rfl) rfl rfl hl.1 (Nat.le_of_ble_eq_true rfl) dL_law_466 (fun H locs G => ?_)
  refine W.eq (g2 := F0 m 469 ls [.int r, .int r]) rfl ?_
  refine lv_icmp_eq (tgt := 1226) C.1 C.2.1 dL_law_469 (by decide) (fun _ => kk _ _ _ _ G) (fun hc => absurd rfl hc)
set_option maxHeartbeats 4000000 in
theorem lw_case10 {i : Nat} {r : Int32} {σ' : cl_S} {ρ' : rf_S} (C : cl_C D p s m args meth c code 4 ret R_law) (hK : rf_K Dr s) (hZ : rf_Zs (s.heap, q9, qv9) h0 s) (hcs : s.heap.size = c0 ∧ D.2.2.2.1 = s.heap) (hX : va_X b L xs s s.heap) (hbl : b < s.heap.size) (hL : L ≤ 320) (hi : i + 5 ≤ L) (G : lw_H D Dr c0 h0 s σ ρ H locs cells slots) (hl : lv_has ls 4 [(3, .int (nI i)), (2, .ref h0), (1, .ref (c0 + 0)), (0, .ref b)]) (hc : lw_fc 10 (xs (i + 1)) (xs (i + 2)) (xs (i + 3)) (xs (i + 4)) σ = some (r, σ')) (hq : lw_fq 10 (xs (i + 1)) (xs (i + 2)) (xs (i + 3)) (xs (i + 4)) ρ = some (r, ρ')) (kk : ∀ (H : Heap) (locs : List Loc) (cells slots : Nat), lw_H D Dr c0 h0 s σ' ρ' H locs cells slots → W p l e room_1 s m args below meth c H locs cells slots Q (F0 m 1226 ls [])) : W p l e room_1 s m args below meth c H locs cells slots Q (F0 m 474 ls []) := by
  refine lv_aload_n C.1 C.2.1 dL_law_474 rfl (lv_at hl 2 rfl) ?_
  refine lw_callC (rest := []) C G lw_c10 [] _ (kc_X11_boot l D c0 (a := 0) G.2.2.2.2.2 hc) (Nat.le_of_ble_eq_true rfl) (Nat.le_of_ble_eq_true rfl) rfl rfl hl.1 (Nat.le_of_ble_eq_true rfl) dL_law_475 (fun H locs cells slots G => ?_)
  refine W.eq (g2 := F0 m 478 ls [.int r]) rfl ?_
  refine lv_aload_n C.1 C.2.1 dL_law_478 rfl (lv_at hl 1 rfl) ?_
  refine lw_callR (rest := [.int r]) C hK hcs G lw_q10 [] _ (kq_boot l Dr h0 hq) rf_blind (lw_BR G hK) (Nat.le_of_ble_eq_true rfl) (Nat.le_of_ble_eq_true rfl) rfl rfl hl.1 (Nat.le_of_ble_eq_true rfl) dL_law_479 (fun H locs G => ?_)
  refine W.eq (g2 := F0 m 482 ls [.int r, .int r]) rfl ?_
  refine lv_icmp_eq (tgt := 1226) C.1 C.2.1 dL_law_482 (by decide) (fun _ => kk _ _ _ _ G) (fun hc => absurd rfl hc)
set_option maxHeartbeats 4000000 in
theorem lw_case11 {i : Nat} {r : Int32} {σ' : cl_S} {ρ' : rf_S} (C : cl_C D p s m args meth c code 4 ret R_law) (hK : rf_K Dr s) (hZ : rf_Zs (s.heap, q9, qv9) h0 s) (hcs : s.heap.size = c0 ∧ D.2.2.2.1 = s.heap) (hX : va_X b L xs s s.heap) (hbl : b < s.heap.size) (hL : L ≤ 320) (hi : i + 5 ≤ L) (G : lw_H D Dr c0 h0 s σ ρ H locs cells slots) (hl : lv_has ls 4 [(3, .int (nI i)), (2, .ref h0), (1, .ref (c0 + 0)), (0, .ref b)]) (hc : lw_fc 11 (xs (i + 1)) (xs (i + 2)) (xs (i + 3)) (xs (i + 4)) σ = some (r, σ')) (hq : lw_fq 11 (xs (i + 1)) (xs (i + 2)) (xs (i + 3)) (xs (i + 4)) ρ = some (r, ρ')) (kk : ∀ (H : Heap) (locs : List Loc) (cells slots : Nat), lw_H D Dr c0 h0 s σ' ρ' H locs cells slots → W p l e room_1 s m args below meth c H locs cells slots Q (F0 m 1226 ls [])) : W p l e room_1 s m args below meth c H locs cells slots Q (F0 m 487 ls []) := by
  refine lv_aload_n C.1 C.2.1 dL_law_487 rfl (lv_at hl 2 rfl) ?_
  refine lw_callC (rest := []) C G lw_c11 [] _ (kc_X11_off l D c0 (a := 0) G.2.2.2.2.2 hc) (Nat.le_of_ble_eq_true rfl) (Nat.le_of_ble_eq_true rfl) rfl rfl hl.1 (Nat.le_of_ble_eq_true rfl) dL_law_488 (fun H locs cells slots G => ?_)
  refine W.eq (g2 := F0 m 491 ls [.int r]) rfl ?_
  refine lv_aload_n C.1 C.2.1 dL_law_491 rfl (lv_at hl 1 rfl) ?_
  refine lw_callR (rest := [.int r]) C hK hcs G lw_q11 [] _ (kq_off l Dr h0 hq) rf_blind (lw_BR G hK) (Nat.le_of_ble_eq_true rfl) (Nat.le_of_ble_eq_true rfl) rfl rfl hl.1 (Nat.le_of_ble_eq_true rfl) dL_law_492 (fun H locs G => ?_)
  refine W.eq (g2 := F0 m 495 ls [.int r, .int r]) rfl ?_
  refine lv_icmp_eq (tgt := 1226) C.1 C.2.1 dL_law_495 (by decide) (fun _ => kk _ _ _ _ G) (fun hc => absurd rfl hc)
set_option maxHeartbeats 4000000 in
theorem lw_case12 {i : Nat} {r : Int32} {σ' : cl_S} {ρ' : rf_S} (C : cl_C D p s m args meth c code 4 ret R_law) (hK : rf_K Dr s) (hZ : rf_Zs (s.heap, q9, qv9) h0 s) (hcs : s.heap.size = c0 ∧ D.2.2.2.1 = s.heap) (hX : va_X b L xs s s.heap) (hbl : b < s.heap.size) (hL : L ≤ 320) (hi : i + 5 ≤ L) (G : lw_H D Dr c0 h0 s σ ρ H locs cells slots) (hl : lv_has ls 4 [(3, .int (nI i)), (2, .ref h0), (1, .ref (c0 + 0)), (0, .ref b)]) (hc : lw_fc 12 (xs (i + 1)) (xs (i + 2)) (xs (i + 3)) (xs (i + 4)) σ = some (r, σ')) (hq : lw_fq 12 (xs (i + 1)) (xs (i + 2)) (xs (i + 3)) (xs (i + 4)) ρ = some (r, ρ')) (kk : ∀ (H : Heap) (locs : List Loc) (cells slots : Nat), lw_H D Dr c0 h0 s σ' ρ' H locs cells slots → W p l e room_1 s m args below meth c H locs cells slots Q (F0 m 1226 ls [])) : W p l e room_1 s m args below meth c H locs cells slots Q (F0 m 500 ls []) := by
  refine lv_aload_n C.1 C.2.1 dL_law_500 rfl (lv_at hl 2 rfl) ?_
  refine lv_aload_n C.1 C.2.1 dL_law_501 rfl (lv_at hl 3 rfl) ?_
  refine lv_iload_n C.1 C.2.1 dL_law_502 rfl (lv_at hl 0 rfl) ?_
  refine lv_iconst (v := (1:Int32)) C.1 C.2.1 dL_law_503 (by decide) ?_
  refine lv_iadd C.1 C.2.1 dL_law_504 ?_
  refine lw_ld C hcs.1 hX hbl G (i := i) (j := 1) (by omega) hL rfl dL_law_505 ?_
  refine lw_callC (rest := []) C G lw_c12 [.int (xs (i + 1))] _ (kc_X11_cut l D c0 (a := 0) G.2.2.2.2.2 hc) (Nat.le_of_ble_eq_true rfl) (Nat.le_of_ble_eq_true rfl) rfl rfl hl.1 (Nat.le_of_ble_eq_true rfl) dL_law_506 (fun H locs cells slots G => ?_)
  refine W.eq (g2 := F0 m 509 ls [.int r]) rfl ?_
  refine lv_aload_n C.1 C.2.1 dL_law_509 rfl (lv_at hl 1 rfl) ?_
  refine lv_aload_n C.1 C.2.1 dL_law_510 rfl (lv_at hl 3 rfl) ?_
  refine lv_iload_n C.1 C.2.1 dL_law_511 rfl (lv_at hl 0 rfl) ?_
  refine lv_iconst (v := (1:Int32)) C.1 C.2.1 dL_law_512 (by decide) ?_
  refine lv_iadd C.1 C.2.1 dL_law_513 ?_
  refine lw_ld C hcs.1 hX hbl G (i := i) (j := 1) (by omega) hL rfl dL_law_514 ?_
  refine lw_callR (rest := [.int r]) C hK hcs G lw_q12 [.int (xs (i + 1))] _ (kq_cut l Dr h0 hq) rf_blind (lw_BR G hK) (Nat.le_of_ble_eq_true rfl) (Nat.le_of_ble_eq_true rfl) rfl rfl hl.1 (Nat.le_of_ble_eq_true rfl) dL_law_515 (fun H locs G => ?_)
  refine W.eq (g2 := F0 m 518 ls [.int r, .int r]) rfl ?_
  refine lv_icmp_eq (tgt := 1226) C.1 C.2.1 dL_law_518 (by decide) (fun _ => kk _ _ _ _ G) (fun hc => absurd rfl hc)
set_option maxHeartbeats 4000000 in
theorem lw_case13 {i : Nat} {r : Int32} {σ' : cl_S} {ρ' : rf_S} (C : cl_C D p s m args meth c code 4 ret R_law) (hK : rf_K Dr s) (hZ : rf_Zs (s.heap, q9, qv9) h0 s) (hcs : s.heap.size = c0 ∧ D.2.2.2.1 = s.heap) (hX : va_X b L xs s s.heap) (hbl : b < s.heap.size) (hL : L ≤ 320) (hi : i + 5 ≤ L) (G : lw_H D Dr c0 h0 s σ ρ H locs cells slots) (hl : lv_has ls 4 [(3, .int (nI i)), (2, .ref h0), (1, .ref (c0 + 0)), (0, .ref b)]) (hc : lw_fc 13 (xs (i + 1)) (xs (i + 2)) (xs (i + 3)) (xs (i + 4)) σ = some (r, σ')) (hq : lw_fq 13 (xs (i + 1)) (xs (i + 2)) (xs (i + 3)) (xs (i + 4)) ρ = some (r, ρ')) (kk : ∀ (H : Heap) (locs : List Loc) (cells slots : Nat), lw_H D Dr c0 h0 s σ' ρ' H locs cells slots → W p l e room_1 s m args below meth c H locs cells slots Q (F0 m 1226 ls [])) : W p l e room_1 s m args below meth c H locs cells slots Q (F0 m 523 ls []) := by
  refine lv_aload_n C.1 C.2.1 dL_law_523 rfl (lv_at hl 2 rfl) ?_
  refine lv_aload_n C.1 C.2.1 dL_law_524 rfl (lv_at hl 3 rfl) ?_
  refine lv_iload_n C.1 C.2.1 dL_law_525 rfl (lv_at hl 0 rfl) ?_
  refine lv_iconst (v := (1:Int32)) C.1 C.2.1 dL_law_526 (by decide) ?_
  refine lv_iadd C.1 C.2.1 dL_law_527 ?_
  refine lw_ld C hcs.1 hX hbl G (i := i) (j := 1) (by omega) hL rfl dL_law_528 ?_
  refine lw_callC (rest := []) C G lw_c13 [.int (xs (i + 1))] _ (kc_X11_run l D c0 (a := 0) G.2.2.2.2.2 hc) (Nat.le_of_ble_eq_true rfl) (Nat.le_of_ble_eq_true rfl) rfl rfl hl.1 (Nat.le_of_ble_eq_true rfl) dL_law_529 (fun H locs cells slots G => ?_)
  refine W.eq (g2 := F0 m 532 ls [.int r]) rfl ?_
  refine lv_aload_n C.1 C.2.1 dL_law_532 rfl (lv_at hl 1 rfl) ?_
  refine lv_aload_n C.1 C.2.1 dL_law_533 rfl (lv_at hl 3 rfl) ?_
  refine lv_iload_n C.1 C.2.1 dL_law_534 rfl (lv_at hl 0 rfl) ?_
  refine lv_iconst (v := (1:Int32)) C.1 C.2.1 dL_law_535 (by decide) ?_
  refine lv_iadd C.1 C.2.1 dL_law_536 ?_
  refine lw_ld C hcs.1 hX hbl G (i := i) (j := 1) (by omega) hL rfl dL_law_537 ?_
  refine lw_callR (rest := [.int r]) C hK hcs G lw_q13 [.int (xs (i + 1))] _ (kq_run l Dr h0 hq) rf_blind (lw_BR G hK) (Nat.le_of_ble_eq_true rfl) (Nat.le_of_ble_eq_true rfl) rfl rfl hl.1 (Nat.le_of_ble_eq_true rfl) dL_law_538 (fun H locs G => ?_)
  refine W.eq (g2 := F0 m 541 ls [.int r, .int r]) rfl ?_
  refine lv_icmp_eq (tgt := 1226) C.1 C.2.1 dL_law_541 (by decide) (fun _ => kk _ _ _ _ G) (fun hc => absurd rfl hc)
set_option maxHeartbeats 4000000 in
theorem lw_case14 {i : Nat} {r : Int32} {σ' : cl_S} {ρ' : rf_S} (C : cl_C D p s m args meth c code 4 ret R_law) (hK : rf_K Dr s) (hZ : rf_Zs (s.heap, q9, qv9) h0 s) (hcs : s.heap.size = c0 ∧ D.2.2.2.1 = s.heap) (hX : va_X b L xs s s.heap) (hbl : b < s.heap.size) (hL : L ≤ 320) (hi : i + 5 ≤ L) (G : lw_H D Dr c0 h0 s σ ρ H locs cells slots) (hl : lv_has ls 4 [(3, .int (nI i)), (2, .ref h0), (1, .ref (c0 + 0)), (0, .ref b)]) (hc : lw_fc 14 (xs (i + 1)) (xs (i + 2)) (xs (i + 3)) (xs (i + 4)) σ = some (r, σ')) (hq : lw_fq 14 (xs (i + 1)) (xs (i + 2)) (xs (i + 3)) (xs (i + 4)) ρ = some (r, ρ')) (kk : ∀ (H : Heap) (locs : List Loc) (cells slots : Nat), lw_H D Dr c0 h0 s σ' ρ' H locs cells slots → W p l e room_1 s m args below meth c H locs cells slots Q (F0 m 1226 ls [])) : W p l e room_1 s m args below meth c H locs cells slots Q (F0 m 546 ls []) := by
  refine lv_aload_n C.1 C.2.1 dL_law_546 rfl (lv_at hl 2 rfl) ?_
  refine lv_aload_n C.1 C.2.1 dL_law_547 rfl (lv_at hl 3 rfl) ?_
  refine lv_iload_n C.1 C.2.1 dL_law_548 rfl (lv_at hl 0 rfl) ?_
  refine lv_iconst (v := (1:Int32)) C.1 C.2.1 dL_law_549 (by decide) ?_
  refine lv_iadd C.1 C.2.1 dL_law_550 ?_
  refine lw_ld C hcs.1 hX hbl G (i := i) (j := 1) (by omega) hL rfl dL_law_551 ?_
  refine lv_aload_n C.1 C.2.1 dL_law_552 rfl (lv_at hl 3 rfl) ?_
  refine lv_iload_n C.1 C.2.1 dL_law_553 rfl (lv_at hl 0 rfl) ?_
  refine lv_iconst (v := (2:Int32)) C.1 C.2.1 dL_law_554 (by decide) ?_
  refine lv_iadd C.1 C.2.1 dL_law_555 ?_
  refine lw_ld C hcs.1 hX hbl G (i := i) (j := 2) (by omega) hL rfl dL_law_556 ?_
  refine lw_callC (rest := []) C G lw_c14 [.int (xs (i + 1)), .int (xs (i + 2))] _ (kc_X11_input l D c0 (a := 0) G.2.2.2.2.2 hc) (Nat.le_of_ble_eq_true rfl) (Nat.le_of_ble_eq_true rfl) rfl rfl hl.1 (Nat.le_of_ble_eq_true rfl) dL_law_557 (fun H locs cells slots G => ?_)
  refine W.eq (g2 := F0 m 560 ls [.int r]) rfl ?_
  refine lv_aload_n C.1 C.2.1 dL_law_560 rfl (lv_at hl 1 rfl) ?_
  refine lv_aload_n C.1 C.2.1 dL_law_561 rfl (lv_at hl 3 rfl) ?_
  refine lv_iload_n C.1 C.2.1 dL_law_562 rfl (lv_at hl 0 rfl) ?_
  refine lv_iconst (v := (1:Int32)) C.1 C.2.1 dL_law_563 (by decide) ?_
  refine lv_iadd C.1 C.2.1 dL_law_564 ?_
  refine lw_ld C hcs.1 hX hbl G (i := i) (j := 1) (by omega) hL rfl dL_law_565 ?_
  refine lv_aload_n C.1 C.2.1 dL_law_566 rfl (lv_at hl 3 rfl) ?_
  refine lv_iload_n C.1 C.2.1 dL_law_567 rfl (lv_at hl 0 rfl) ?_
  refine lv_iconst (v := (2:Int32)) C.1 C.2.1 dL_law_568 (by decide) ?_
  refine lv_iadd C.1 C.2.1 dL_law_569 ?_
  refine lw_ld C hcs.1 hX hbl G (i := i) (j := 2) (by omega) hL rfl dL_law_570 ?_
  refine lw_callR (rest := [.int r]) C hK hcs G lw_q14 [.int (xs (i + 1)), .int (xs (i + 2))] _ (kq_input l Dr h0 hq) rf_blind (lw_BR G hK) (Nat.le_of_ble_eq_true rfl) (Nat.le_of_ble_eq_true rfl) rfl rfl hl.1 (Nat.le_of_ble_eq_true rfl) dL_law_571 (fun H locs G => ?_)
  refine W.eq (g2 := F0 m 574 ls [.int r, .int r]) rfl ?_
  refine lv_icmp_eq (tgt := 1226) C.1 C.2.1 dL_law_574 (by decide) (fun _ => kk _ _ _ _ G) (fun hc => absurd rfl hc)
set_option maxHeartbeats 4000000 in
theorem lw_case15 {i : Nat} {r : Int32} {σ' : cl_S} {ρ' : rf_S} (C : cl_C D p s m args meth c code 4 ret R_law) (hK : rf_K Dr s) (hZ : rf_Zs (s.heap, q9, qv9) h0 s) (hcs : s.heap.size = c0 ∧ D.2.2.2.1 = s.heap) (hX : va_X b L xs s s.heap) (hbl : b < s.heap.size) (hL : L ≤ 320) (hi : i + 5 ≤ L) (G : lw_H D Dr c0 h0 s σ ρ H locs cells slots) (hl : lv_has ls 4 [(3, .int (nI i)), (2, .ref h0), (1, .ref (c0 + 0)), (0, .ref b)]) (hc : lw_fc 15 (xs (i + 1)) (xs (i + 2)) (xs (i + 3)) (xs (i + 4)) σ = some (r, σ')) (hq : lw_fq 15 (xs (i + 1)) (xs (i + 2)) (xs (i + 3)) (xs (i + 4)) ρ = some (r, ρ')) (kk : ∀ (H : Heap) (locs : List Loc) (cells slots : Nat), lw_H D Dr c0 h0 s σ' ρ' H locs cells slots → W p l e room_1 s m args below meth c H locs cells slots Q (F0 m 1226 ls [])) : W p l e room_1 s m args below meth c H locs cells slots Q (F0 m 579 ls []) := by
  refine lv_aload_n C.1 C.2.1 dL_law_579 rfl (lv_at hl 2 rfl) ?_
  refine lv_aload_n C.1 C.2.1 dL_law_580 rfl (lv_at hl 3 rfl) ?_
  refine lv_iload_n C.1 C.2.1 dL_law_581 rfl (lv_at hl 0 rfl) ?_
  refine lv_iconst (v := (1:Int32)) C.1 C.2.1 dL_law_582 (by decide) ?_
  refine lv_iadd C.1 C.2.1 dL_law_583 ?_
  refine lw_ld C hcs.1 hX hbl G (i := i) (j := 1) (by omega) hL rfl dL_law_584 ?_
  refine lv_aload_n C.1 C.2.1 dL_law_585 rfl (lv_at hl 3 rfl) ?_
  refine lv_iload_n C.1 C.2.1 dL_law_586 rfl (lv_at hl 0 rfl) ?_
  refine lv_iconst (v := (2:Int32)) C.1 C.2.1 dL_law_587 (by decide) ?_
  refine lv_iadd C.1 C.2.1 dL_law_588 ?_
  refine lw_ld C hcs.1 hX hbl G (i := i) (j := 2) (by omega) hL rfl dL_law_589 ?_
  refine lw_callC (rest := []) C G lw_c15 [.int (xs (i + 1)), .int (xs (i + 2))] _ (kc_X11_inputTerm l D c0 (a := 0) G.2.2.2.2.2 hc) (Nat.le_of_ble_eq_true rfl) (Nat.le_of_ble_eq_true rfl) rfl rfl hl.1 (Nat.le_of_ble_eq_true rfl) dL_law_590 (fun H locs cells slots G => ?_)
  refine W.eq (g2 := F0 m 593 ls [.int r]) rfl ?_
  refine lv_aload_n C.1 C.2.1 dL_law_593 rfl (lv_at hl 1 rfl) ?_
  refine lv_aload_n C.1 C.2.1 dL_law_594 rfl (lv_at hl 3 rfl) ?_
  refine lv_iload_n C.1 C.2.1 dL_law_595 rfl (lv_at hl 0 rfl) ?_
  refine lv_iconst (v := (1:Int32)) C.1 C.2.1 dL_law_596 (by decide) ?_
  refine lv_iadd C.1 C.2.1 dL_law_597 ?_
  refine lw_ld C hcs.1 hX hbl G (i := i) (j := 1) (by omega) hL rfl dL_law_598 ?_
  refine lv_aload_n C.1 C.2.1 dL_law_599 rfl (lv_at hl 3 rfl) ?_
  refine lv_iload_n C.1 C.2.1 dL_law_600 rfl (lv_at hl 0 rfl) ?_
  refine lv_iconst (v := (2:Int32)) C.1 C.2.1 dL_law_601 (by decide) ?_
  refine lv_iadd C.1 C.2.1 dL_law_602 ?_
  refine lw_ld C hcs.1 hX hbl G (i := i) (j := 2) (by omega) hL rfl dL_law_603 ?_
  refine lw_callR (rest := [.int r]) C hK hcs G lw_q15 [.int (xs (i + 1)), .int (xs (i + 2))] _ (kq_inputTerm l Dr h0 hq) rf_blind (lw_BR G hK) (Nat.le_of_ble_eq_true rfl) (Nat.le_of_ble_eq_true rfl) rfl rfl hl.1 (Nat.le_of_ble_eq_true rfl) dL_law_604 (fun H locs G => ?_)
  refine W.eq (g2 := F0 m 607 ls [.int r, .int r]) rfl ?_
  refine lv_icmp_eq (tgt := 1226) C.1 C.2.1 dL_law_607 (by decide) (fun _ => kk _ _ _ _ G) (fun hc => absurd rfl hc)
set_option maxHeartbeats 4000000 in
theorem lw_case16 {i : Nat} {r : Int32} {σ' : cl_S} {ρ' : rf_S} (C : cl_C D p s m args meth c code 4 ret R_law) (hK : rf_K Dr s) (hZ : rf_Zs (s.heap, q9, qv9) h0 s) (hcs : s.heap.size = c0 ∧ D.2.2.2.1 = s.heap) (hX : va_X b L xs s s.heap) (hbl : b < s.heap.size) (hL : L ≤ 320) (hi : i + 5 ≤ L) (G : lw_H D Dr c0 h0 s σ ρ H locs cells slots) (hl : lv_has ls 4 [(3, .int (nI i)), (2, .ref h0), (1, .ref (c0 + 0)), (0, .ref b)]) (hc : lw_fc 16 (xs (i + 1)) (xs (i + 2)) (xs (i + 3)) (xs (i + 4)) σ = some (r, σ')) (hq : lw_fq 16 (xs (i + 1)) (xs (i + 2)) (xs (i + 3)) (xs (i + 4)) ρ = some (r, ρ')) (kk : ∀ (H : Heap) (locs : List Loc) (cells slots : Nat), lw_H D Dr c0 h0 s σ' ρ' H locs cells slots → W p l e room_1 s m args below meth c H locs cells slots Q (F0 m 1226 ls [])) : W p l e room_1 s m args below meth c H locs cells slots Q (F0 m 612 ls []) := by
  refine lv_aload_n C.1 C.2.1 dL_law_612 rfl (lv_at hl 2 rfl) ?_
  refine lv_aload_n C.1 C.2.1 dL_law_613 rfl (lv_at hl 3 rfl) ?_
  refine lv_iload_n C.1 C.2.1 dL_law_614 rfl (lv_at hl 0 rfl) ?_
  refine lv_iconst (v := (1:Int32)) C.1 C.2.1 dL_law_615 (by decide) ?_
  refine lv_iadd C.1 C.2.1 dL_law_616 ?_
  refine lw_ld C hcs.1 hX hbl G (i := i) (j := 1) (by omega) hL rfl dL_law_617 ?_
  refine lv_aload_n C.1 C.2.1 dL_law_618 rfl (lv_at hl 3 rfl) ?_
  refine lv_iload_n C.1 C.2.1 dL_law_619 rfl (lv_at hl 0 rfl) ?_
  refine lv_iconst (v := (2:Int32)) C.1 C.2.1 dL_law_620 (by decide) ?_
  refine lv_iadd C.1 C.2.1 dL_law_621 ?_
  refine lw_ld C hcs.1 hX hbl G (i := i) (j := 2) (by omega) hL rfl dL_law_622 ?_
  refine lv_aload_n C.1 C.2.1 dL_law_623 rfl (lv_at hl 3 rfl) ?_
  refine lv_iload_n C.1 C.2.1 dL_law_624 rfl (lv_at hl 0 rfl) ?_
  refine lv_iconst (v := (3:Int32)) C.1 C.2.1 dL_law_625 (by decide) ?_
  refine lv_iadd C.1 C.2.1 dL_law_626 ?_
  refine lw_ld C hcs.1 hX hbl G (i := i) (j := 3) (by omega) hL rfl dL_law_627 ?_
  refine lw_callC (rest := []) C G lw_c16 [.int (xs (i + 1)), .int (xs (i + 2)), .int (xs (i + 3))] _ (kc_X11_output l D c0 (a := 0) G.2.2.2.2.2 hc) (Nat.le_of_ble_eq_true rfl) (Nat.le_of_ble_eq_true rfl) rfl rfl hl.1 (Nat.le_of_ble_eq_true rfl) dL_law_628 (fun H locs cells slots G => ?_)
  refine W.eq (g2 := F0 m 631 ls [.int r]) rfl ?_
  refine lv_aload_n C.1 C.2.1 dL_law_631 rfl (lv_at hl 1 rfl) ?_
  refine lv_aload_n C.1 C.2.1 dL_law_632 rfl (lv_at hl 3 rfl) ?_
  refine lv_iload_n C.1 C.2.1 dL_law_633 rfl (lv_at hl 0 rfl) ?_
  refine lv_iconst (v := (1:Int32)) C.1 C.2.1 dL_law_634 (by decide) ?_
  refine lv_iadd C.1 C.2.1 dL_law_635 ?_
  refine lw_ld C hcs.1 hX hbl G (i := i) (j := 1) (by omega) hL rfl dL_law_636 ?_
  refine lv_aload_n C.1 C.2.1 dL_law_637 rfl (lv_at hl 3 rfl) ?_
  refine lv_iload_n C.1 C.2.1 dL_law_638 rfl (lv_at hl 0 rfl) ?_
  refine lv_iconst (v := (2:Int32)) C.1 C.2.1 dL_law_639 (by decide) ?_
  refine lv_iadd C.1 C.2.1 dL_law_640 ?_
  refine lw_ld C hcs.1 hX hbl G (i := i) (j := 2) (by omega) hL rfl dL_law_641 ?_
  refine lv_aload_n C.1 C.2.1 dL_law_642 rfl (lv_at hl 3 rfl) ?_
  refine lv_iload_n C.1 C.2.1 dL_law_643 rfl (lv_at hl 0 rfl) ?_
  refine lv_iconst (v := (3:Int32)) C.1 C.2.1 dL_law_644 (by decide) ?_
  refine lv_iadd C.1 C.2.1 dL_law_645 ?_
  refine lw_ld C hcs.1 hX hbl G (i := i) (j := 3) (by omega) hL rfl dL_law_646 ?_
  refine lw_callR (rest := [.int r]) C hK hcs G lw_q16 [.int (xs (i + 1)), .int (xs (i + 2)), .int (xs (i + 3))] _ (kq_output l Dr h0 hq) rf_blind (lw_BR G hK) (Nat.le_of_ble_eq_true rfl) (Nat.le_of_ble_eq_true rfl) rfl rfl hl.1 (Nat.le_of_ble_eq_true rfl) dL_law_647 (fun H locs G => ?_)
  refine W.eq (g2 := F0 m 650 ls [.int r, .int r]) rfl ?_
  refine lv_icmp_eq (tgt := 1226) C.1 C.2.1 dL_law_650 (by decide) (fun _ => kk _ _ _ _ G) (fun hc => absurd rfl hc)
set_option maxHeartbeats 4000000 in
theorem lw_case17 {i : Nat} {r : Int32} {σ' : cl_S} {ρ' : rf_S} (C : cl_C D p s m args meth c code 4 ret R_law) (hK : rf_K Dr s) (hZ : rf_Zs (s.heap, q9, qv9) h0 s) (hcs : s.heap.size = c0 ∧ D.2.2.2.1 = s.heap) (hX : va_X b L xs s s.heap) (hbl : b < s.heap.size) (hL : L ≤ 320) (hi : i + 5 ≤ L) (G : lw_H D Dr c0 h0 s σ ρ H locs cells slots) (hl : lv_has ls 4 [(3, .int (nI i)), (2, .ref h0), (1, .ref (c0 + 0)), (0, .ref b)]) (hc : lw_fc 17 (xs (i + 1)) (xs (i + 2)) (xs (i + 3)) (xs (i + 4)) σ = some (r, σ')) (hq : lw_fq 17 (xs (i + 1)) (xs (i + 2)) (xs (i + 3)) (xs (i + 4)) ρ = some (r, ρ')) (kk : ∀ (H : Heap) (locs : List Loc) (cells slots : Nat), lw_H D Dr c0 h0 s σ' ρ' H locs cells slots → W p l e room_1 s m args below meth c H locs cells slots Q (F0 m 1226 ls [])) : W p l e room_1 s m args below meth c H locs cells slots Q (F0 m 655 ls []) := by
  refine lv_aload_n C.1 C.2.1 dL_law_655 rfl (lv_at hl 2 rfl) ?_
  refine lv_aload_n C.1 C.2.1 dL_law_656 rfl (lv_at hl 3 rfl) ?_
  refine lv_iload_n C.1 C.2.1 dL_law_657 rfl (lv_at hl 0 rfl) ?_
  refine lv_iconst (v := (1:Int32)) C.1 C.2.1 dL_law_658 (by decide) ?_
  refine lv_iadd C.1 C.2.1 dL_law_659 ?_
  refine lw_ld C hcs.1 hX hbl G (i := i) (j := 1) (by omega) hL rfl dL_law_660 ?_
  refine lv_aload_n C.1 C.2.1 dL_law_661 rfl (lv_at hl 3 rfl) ?_
  refine lv_iload_n C.1 C.2.1 dL_law_662 rfl (lv_at hl 0 rfl) ?_
  refine lv_iconst (v := (2:Int32)) C.1 C.2.1 dL_law_663 (by decide) ?_
  refine lv_iadd C.1 C.2.1 dL_law_664 ?_
  refine lw_ld C hcs.1 hX hbl G (i := i) (j := 2) (by omega) hL rfl dL_law_665 ?_
  refine lw_callC (rest := []) C G lw_c17 [.int (xs (i + 1)), .int (xs (i + 2))] _ (kc_X11_state l D c0 (a := 0) G.2.2.2.2.2 hc) (Nat.le_of_ble_eq_true rfl) (Nat.le_of_ble_eq_true rfl) rfl rfl hl.1 (Nat.le_of_ble_eq_true rfl) dL_law_666 (fun H locs cells slots G => ?_)
  refine W.eq (g2 := F0 m 669 ls [.int r]) rfl ?_
  refine lv_aload_n C.1 C.2.1 dL_law_669 rfl (lv_at hl 1 rfl) ?_
  refine lv_aload_n C.1 C.2.1 dL_law_670 rfl (lv_at hl 3 rfl) ?_
  refine lv_iload_n C.1 C.2.1 dL_law_671 rfl (lv_at hl 0 rfl) ?_
  refine lv_iconst (v := (1:Int32)) C.1 C.2.1 dL_law_672 (by decide) ?_
  refine lv_iadd C.1 C.2.1 dL_law_673 ?_
  refine lw_ld C hcs.1 hX hbl G (i := i) (j := 1) (by omega) hL rfl dL_law_674 ?_
  refine lv_aload_n C.1 C.2.1 dL_law_675 rfl (lv_at hl 3 rfl) ?_
  refine lv_iload_n C.1 C.2.1 dL_law_676 rfl (lv_at hl 0 rfl) ?_
  refine lv_iconst (v := (2:Int32)) C.1 C.2.1 dL_law_677 (by decide) ?_
  refine lv_iadd C.1 C.2.1 dL_law_678 ?_
  refine lw_ld C hcs.1 hX hbl G (i := i) (j := 2) (by omega) hL rfl dL_law_679 ?_
  refine lw_callR (rest := [.int r]) C hK hcs G lw_q17 [.int (xs (i + 1)), .int (xs (i + 2))] _ (kq_state l Dr h0 hq) rf_blind (lw_BR G hK) (Nat.le_of_ble_eq_true rfl) (Nat.le_of_ble_eq_true rfl) rfl rfl hl.1 (Nat.le_of_ble_eq_true rfl) dL_law_680 (fun H locs G => ?_)
  refine W.eq (g2 := F0 m 683 ls [.int r, .int r]) rfl ?_
  refine lv_icmp_eq (tgt := 1226) C.1 C.2.1 dL_law_683 (by decide) (fun _ => kk _ _ _ _ G) (fun hc => absurd rfl hc)
set_option maxHeartbeats 4000000 in
theorem lw_case18 {i : Nat} {r : Int32} {σ' : cl_S} {ρ' : rf_S} (C : cl_C D p s m args meth c code 4 ret R_law) (hK : rf_K Dr s) (hZ : rf_Zs (s.heap, q9, qv9) h0 s) (hcs : s.heap.size = c0 ∧ D.2.2.2.1 = s.heap) (hX : va_X b L xs s s.heap) (hbl : b < s.heap.size) (hL : L ≤ 320) (hi : i + 5 ≤ L) (G : lw_H D Dr c0 h0 s σ ρ H locs cells slots) (hl : lv_has ls 4 [(3, .int (nI i)), (2, .ref h0), (1, .ref (c0 + 0)), (0, .ref b)]) (hc : lw_fc 18 (xs (i + 1)) (xs (i + 2)) (xs (i + 3)) (xs (i + 4)) σ = some (r, σ')) (hq : lw_fq 18 (xs (i + 1)) (xs (i + 2)) (xs (i + 3)) (xs (i + 4)) ρ = some (r, ρ')) (kk : ∀ (H : Heap) (locs : List Loc) (cells slots : Nat), lw_H D Dr c0 h0 s σ' ρ' H locs cells slots → W p l e room_1 s m args below meth c H locs cells slots Q (F0 m 1226 ls [])) : W p l e room_1 s m args below meth c H locs cells slots Q (F0 m 688 ls []) := by
  refine lv_aload_n C.1 C.2.1 dL_law_688 rfl (lv_at hl 2 rfl) ?_
  refine lv_aload_n C.1 C.2.1 dL_law_689 rfl (lv_at hl 3 rfl) ?_
  refine lv_iload_n C.1 C.2.1 dL_law_690 rfl (lv_at hl 0 rfl) ?_
  refine lv_iconst (v := (1:Int32)) C.1 C.2.1 dL_law_691 (by decide) ?_
  refine lv_iadd C.1 C.2.1 dL_law_692 ?_
  refine lw_ld C hcs.1 hX hbl G (i := i) (j := 1) (by omega) hL rfl dL_law_693 ?_
  refine lv_aload_n C.1 C.2.1 dL_law_694 rfl (lv_at hl 3 rfl) ?_
  refine lv_iload_n C.1 C.2.1 dL_law_695 rfl (lv_at hl 0 rfl) ?_
  refine lv_iconst (v := (2:Int32)) C.1 C.2.1 dL_law_696 (by decide) ?_
  refine lv_iadd C.1 C.2.1 dL_law_697 ?_
  refine lw_ld C hcs.1 hX hbl G (i := i) (j := 2) (by omega) hL rfl dL_law_698 ?_
  refine lw_callC (rest := []) C G lw_c18 [.int (xs (i + 1)), .int (xs (i + 2))] _ (kc_X11_register l D c0 (a := 0) G.2.2.2.2.2 hc) (Nat.le_of_ble_eq_true rfl) (Nat.le_of_ble_eq_true rfl) rfl rfl hl.1 (Nat.le_of_ble_eq_true rfl) dL_law_699 (fun H locs cells slots G => ?_)
  refine W.eq (g2 := F0 m 702 ls [.int r]) rfl ?_
  refine lv_aload_n C.1 C.2.1 dL_law_702 rfl (lv_at hl 1 rfl) ?_
  refine lv_aload_n C.1 C.2.1 dL_law_703 rfl (lv_at hl 3 rfl) ?_
  refine lv_iload_n C.1 C.2.1 dL_law_704 rfl (lv_at hl 0 rfl) ?_
  refine lv_iconst (v := (1:Int32)) C.1 C.2.1 dL_law_705 (by decide) ?_
  refine lv_iadd C.1 C.2.1 dL_law_706 ?_
  refine lw_ld C hcs.1 hX hbl G (i := i) (j := 1) (by omega) hL rfl dL_law_707 ?_
  refine lv_aload_n C.1 C.2.1 dL_law_708 rfl (lv_at hl 3 rfl) ?_
  refine lv_iload_n C.1 C.2.1 dL_law_709 rfl (lv_at hl 0 rfl) ?_
  refine lv_iconst (v := (2:Int32)) C.1 C.2.1 dL_law_710 (by decide) ?_
  refine lv_iadd C.1 C.2.1 dL_law_711 ?_
  refine lw_ld C hcs.1 hX hbl G (i := i) (j := 2) (by omega) hL rfl dL_law_712 ?_
  refine lw_callR (rest := [.int r]) C hK hcs G lw_q18 [.int (xs (i + 1)), .int (xs (i + 2))] _ (kq_register l Dr h0 hq) rf_blind (lw_BR G hK) (Nat.le_of_ble_eq_true rfl) (Nat.le_of_ble_eq_true rfl) rfl rfl hl.1 (Nat.le_of_ble_eq_true rfl) dL_law_713 (fun H locs G => ?_)
  refine W.eq (g2 := F0 m 716 ls [.int r, .int r]) rfl ?_
  refine lv_icmp_eq (tgt := 1226) C.1 C.2.1 dL_law_716 (by decide) (fun _ => kk _ _ _ _ G) (fun hc => absurd rfl hc)
set_option maxHeartbeats 4000000 in
theorem lw_case19 {i : Nat} {r : Int32} {σ' : cl_S} {ρ' : rf_S} (C : cl_C D p s m args meth c code 4 ret R_law) (hK : rf_K Dr s) (hZ : rf_Zs (s.heap, q9, qv9) h0 s) (hcs : s.heap.size = c0 ∧ D.2.2.2.1 = s.heap) (hX : va_X b L xs s s.heap) (hbl : b < s.heap.size) (hL : L ≤ 320) (hi : i + 5 ≤ L) (G : lw_H D Dr c0 h0 s σ ρ H locs cells slots) (hl : lv_has ls 4 [(3, .int (nI i)), (2, .ref h0), (1, .ref (c0 + 0)), (0, .ref b)]) (hc : lw_fc 19 (xs (i + 1)) (xs (i + 2)) (xs (i + 3)) (xs (i + 4)) σ = some (r, σ')) (hq : lw_fq 19 (xs (i + 1)) (xs (i + 2)) (xs (i + 3)) (xs (i + 4)) ρ = some (r, ρ')) (kk : ∀ (H : Heap) (locs : List Loc) (cells slots : Nat), lw_H D Dr c0 h0 s σ' ρ' H locs cells slots → W p l e room_1 s m args below meth c H locs cells slots Q (F0 m 1226 ls [])) : W p l e room_1 s m args below meth c H locs cells slots Q (F0 m 721 ls []) := by
  refine lv_aload_n C.1 C.2.1 dL_law_721 rfl (lv_at hl 2 rfl) ?_
  refine lv_aload_n C.1 C.2.1 dL_law_722 rfl (lv_at hl 3 rfl) ?_
  refine lv_iload_n C.1 C.2.1 dL_law_723 rfl (lv_at hl 0 rfl) ?_
  refine lv_iconst (v := (1:Int32)) C.1 C.2.1 dL_law_724 (by decide) ?_
  refine lv_iadd C.1 C.2.1 dL_law_725 ?_
  refine lw_ld C hcs.1 hX hbl G (i := i) (j := 1) (by omega) hL rfl dL_law_726 ?_
  refine lv_aload_n C.1 C.2.1 dL_law_727 rfl (lv_at hl 3 rfl) ?_
  refine lv_iload_n C.1 C.2.1 dL_law_728 rfl (lv_at hl 0 rfl) ?_
  refine lv_iconst (v := (2:Int32)) C.1 C.2.1 dL_law_729 (by decide) ?_
  refine lv_iadd C.1 C.2.1 dL_law_730 ?_
  refine lw_ld C hcs.1 hX hbl G (i := i) (j := 2) (by omega) hL rfl dL_law_731 ?_
  refine lw_callC (rest := []) C G lw_c19 [.int (xs (i + 1)), .int (xs (i + 2))] _ (kc_X11_memory l D c0 (a := 0) G.2.2.2.2.2 hc) (Nat.le_of_ble_eq_true rfl) (Nat.le_of_ble_eq_true rfl) rfl rfl hl.1 (Nat.le_of_ble_eq_true rfl) dL_law_732 (fun H locs cells slots G => ?_)
  refine W.eq (g2 := F0 m 735 ls [.int r]) rfl ?_
  refine lv_aload_n C.1 C.2.1 dL_law_735 rfl (lv_at hl 1 rfl) ?_
  refine lv_aload_n C.1 C.2.1 dL_law_736 rfl (lv_at hl 3 rfl) ?_
  refine lv_iload_n C.1 C.2.1 dL_law_737 rfl (lv_at hl 0 rfl) ?_
  refine lv_iconst (v := (1:Int32)) C.1 C.2.1 dL_law_738 (by decide) ?_
  refine lv_iadd C.1 C.2.1 dL_law_739 ?_
  refine lw_ld C hcs.1 hX hbl G (i := i) (j := 1) (by omega) hL rfl dL_law_740 ?_
  refine lv_aload_n C.1 C.2.1 dL_law_741 rfl (lv_at hl 3 rfl) ?_
  refine lv_iload_n C.1 C.2.1 dL_law_742 rfl (lv_at hl 0 rfl) ?_
  refine lv_iconst (v := (2:Int32)) C.1 C.2.1 dL_law_743 (by decide) ?_
  refine lv_iadd C.1 C.2.1 dL_law_744 ?_
  refine lw_ld C hcs.1 hX hbl G (i := i) (j := 2) (by omega) hL rfl dL_law_745 ?_
  refine lw_callR (rest := [.int r]) C hK hcs G lw_q19 [.int (xs (i + 1)), .int (xs (i + 2))] _ (kq_memory l Dr h0 hq) rf_blind (lw_BR G hK) (Nat.le_of_ble_eq_true rfl) (Nat.le_of_ble_eq_true rfl) rfl rfl hl.1 (Nat.le_of_ble_eq_true rfl) dL_law_746 (fun H locs G => ?_)
  refine W.eq (g2 := F0 m 749 ls [.int r, .int r]) rfl ?_
  refine lv_icmp_eq (tgt := 1226) C.1 C.2.1 dL_law_749 (by decide) (fun _ => kk _ _ _ _ G) (fun hc => absurd rfl hc)
set_option maxHeartbeats 4000000 in
theorem lw_case20 {i : Nat} {r : Int32} {σ' : cl_S} {ρ' : rf_S} (C : cl_C D p s m args meth c code 4 ret R_law) (hK : rf_K Dr s) (hZ : rf_Zs (s.heap, q9, qv9) h0 s) (hcs : s.heap.size = c0 ∧ D.2.2.2.1 = s.heap) (hX : va_X b L xs s s.heap) (hbl : b < s.heap.size) (hL : L ≤ 320) (hi : i + 5 ≤ L) (G : lw_H D Dr c0 h0 s σ ρ H locs cells slots) (hl : lv_has ls 4 [(3, .int (nI i)), (2, .ref h0), (1, .ref (c0 + 0)), (0, .ref b)]) (hc : lw_fc 20 (xs (i + 1)) (xs (i + 2)) (xs (i + 3)) (xs (i + 4)) σ = some (r, σ')) (hq : lw_fq 20 (xs (i + 1)) (xs (i + 2)) (xs (i + 3)) (xs (i + 4)) ρ = some (r, ρ')) (kk : ∀ (H : Heap) (locs : List Loc) (cells slots : Nat), lw_H D Dr c0 h0 s σ' ρ' H locs cells slots → W p l e room_1 s m args below meth c H locs cells slots Q (F0 m 1226 ls [])) : W p l e room_1 s m args below meth c H locs cells slots Q (F0 m 754 ls []) := by
  refine lv_aload_n C.1 C.2.1 dL_law_754 rfl (lv_at hl 2 rfl) ?_
  refine lv_aload_n C.1 C.2.1 dL_law_755 rfl (lv_at hl 3 rfl) ?_
  refine lv_iload_n C.1 C.2.1 dL_law_756 rfl (lv_at hl 0 rfl) ?_
  refine lv_iconst (v := (1:Int32)) C.1 C.2.1 dL_law_757 (by decide) ?_
  refine lv_iadd C.1 C.2.1 dL_law_758 ?_
  refine lw_ld C hcs.1 hX hbl G (i := i) (j := 1) (by omega) hL rfl dL_law_759 ?_
  refine lv_aload_n C.1 C.2.1 dL_law_760 rfl (lv_at hl 3 rfl) ?_
  refine lv_iload_n C.1 C.2.1 dL_law_761 rfl (lv_at hl 0 rfl) ?_
  refine lv_iconst (v := (2:Int32)) C.1 C.2.1 dL_law_762 (by decide) ?_
  refine lv_iadd C.1 C.2.1 dL_law_763 ?_
  refine lw_ld C hcs.1 hX hbl G (i := i) (j := 2) (by omega) hL rfl dL_law_764 ?_
  refine lw_callC (rest := []) C G lw_c20 [.int (xs (i + 1)), .int (xs (i + 2))] _ (kc_X11_channel l D c0 (a := 0) G.2.2.2.2.2 hc) (Nat.le_of_ble_eq_true rfl) (Nat.le_of_ble_eq_true rfl) rfl rfl hl.1 (Nat.le_of_ble_eq_true rfl) dL_law_765 (fun H locs cells slots G => ?_)
  refine W.eq (g2 := F0 m 768 ls [.int r]) rfl ?_
  refine lv_aload_n C.1 C.2.1 dL_law_768 rfl (lv_at hl 1 rfl) ?_
  refine lv_aload_n C.1 C.2.1 dL_law_769 rfl (lv_at hl 3 rfl) ?_
  refine lv_iload_n C.1 C.2.1 dL_law_770 rfl (lv_at hl 0 rfl) ?_
  refine lv_iconst (v := (1:Int32)) C.1 C.2.1 dL_law_771 (by decide) ?_
  refine lv_iadd C.1 C.2.1 dL_law_772 ?_
  refine lw_ld C hcs.1 hX hbl G (i := i) (j := 1) (by omega) hL rfl dL_law_773 ?_
  refine lv_aload_n C.1 C.2.1 dL_law_774 rfl (lv_at hl 3 rfl) ?_
  refine lv_iload_n C.1 C.2.1 dL_law_775 rfl (lv_at hl 0 rfl) ?_
  refine lv_iconst (v := (2:Int32)) C.1 C.2.1 dL_law_776 (by decide) ?_
  refine lv_iadd C.1 C.2.1 dL_law_777 ?_
  refine lw_ld C hcs.1 hX hbl G (i := i) (j := 2) (by omega) hL rfl dL_law_778 ?_
  refine lw_callR (rest := [.int r]) C hK hcs G lw_q20 [.int (xs (i + 1)), .int (xs (i + 2))] _ (kq_channel l Dr h0 hq) rf_blind (lw_BR G hK) (Nat.le_of_ble_eq_true rfl) (Nat.le_of_ble_eq_true rfl) rfl rfl hl.1 (Nat.le_of_ble_eq_true rfl) dL_law_779 (fun H locs G => ?_)
  refine W.eq (g2 := F0 m 782 ls [.int r, .int r]) rfl ?_
  refine lv_icmp_eq (tgt := 1226) C.1 C.2.1 dL_law_782 (by decide) (fun _ => kk _ _ _ _ G) (fun hc => absurd rfl hc)
set_option maxHeartbeats 4000000 in
theorem lw_case21 {i : Nat} {r : Int32} {σ' : cl_S} {ρ' : rf_S} (C : cl_C D p s m args meth c code 4 ret R_law) (hK : rf_K Dr s) (hZ : rf_Zs (s.heap, q9, qv9) h0 s) (hcs : s.heap.size = c0 ∧ D.2.2.2.1 = s.heap) (hX : va_X b L xs s s.heap) (hbl : b < s.heap.size) (hL : L ≤ 320) (hi : i + 5 ≤ L) (G : lw_H D Dr c0 h0 s σ ρ H locs cells slots) (hl : lv_has ls 4 [(3, .int (nI i)), (2, .ref h0), (1, .ref (c0 + 0)), (0, .ref b)]) (hc : lw_fc 21 (xs (i + 1)) (xs (i + 2)) (xs (i + 3)) (xs (i + 4)) σ = some (r, σ')) (hq : lw_fq 21 (xs (i + 1)) (xs (i + 2)) (xs (i + 3)) (xs (i + 4)) ρ = some (r, ρ')) (kk : ∀ (H : Heap) (locs : List Loc) (cells slots : Nat), lw_H D Dr c0 h0 s σ' ρ' H locs cells slots → W p l e room_1 s m args below meth c H locs cells slots Q (F0 m 1226 ls [])) : W p l e room_1 s m args below meth c H locs cells slots Q (F0 m 787 ls []) := by
  refine lv_aload_n C.1 C.2.1 dL_law_787 rfl (lv_at hl 2 rfl) ?_
  refine lv_aload_n C.1 C.2.1 dL_law_788 rfl (lv_at hl 3 rfl) ?_
  refine lv_iload_n C.1 C.2.1 dL_law_789 rfl (lv_at hl 0 rfl) ?_
  refine lv_iconst (v := (1:Int32)) C.1 C.2.1 dL_law_790 (by decide) ?_
  refine lv_iadd C.1 C.2.1 dL_law_791 ?_
  refine lw_ld C hcs.1 hX hbl G (i := i) (j := 1) (by omega) hL rfl dL_law_792 ?_
  refine lv_aload_n C.1 C.2.1 dL_law_793 rfl (lv_at hl 3 rfl) ?_
  refine lv_iload_n C.1 C.2.1 dL_law_794 rfl (lv_at hl 0 rfl) ?_
  refine lv_iconst (v := (2:Int32)) C.1 C.2.1 dL_law_795 (by decide) ?_
  refine lv_iadd C.1 C.2.1 dL_law_796 ?_
  refine lw_ld C hcs.1 hX hbl G (i := i) (j := 2) (by omega) hL rfl dL_law_797 ?_
  refine lw_callC (rest := []) C G lw_c21 [.int (xs (i + 1)), .int (xs (i + 2))] _ (kc_X11_block l D c0 (a := 0) G.2.2.2.2.2 hc) (Nat.le_of_ble_eq_true rfl) (Nat.le_of_ble_eq_true rfl) rfl rfl hl.1 (Nat.le_of_ble_eq_true rfl) dL_law_798 (fun H locs cells slots G => ?_)
  refine W.eq (g2 := F0 m 801 ls [.int r]) rfl ?_
  refine lv_aload_n C.1 C.2.1 dL_law_801 rfl (lv_at hl 1 rfl) ?_
  refine lv_aload_n C.1 C.2.1 dL_law_802 rfl (lv_at hl 3 rfl) ?_
  refine lv_iload_n C.1 C.2.1 dL_law_803 rfl (lv_at hl 0 rfl) ?_
  refine lv_iconst (v := (1:Int32)) C.1 C.2.1 dL_law_804 (by decide) ?_
  refine lv_iadd C.1 C.2.1 dL_law_805 ?_
  refine lw_ld C hcs.1 hX hbl G (i := i) (j := 1) (by omega) hL rfl dL_law_806 ?_
  refine lv_aload_n C.1 C.2.1 dL_law_807 rfl (lv_at hl 3 rfl) ?_
  refine lv_iload_n C.1 C.2.1 dL_law_808 rfl (lv_at hl 0 rfl) ?_
  refine lv_iconst (v := (2:Int32)) C.1 C.2.1 dL_law_809 (by decide) ?_
  refine lv_iadd C.1 C.2.1 dL_law_810 ?_
  refine lw_ld C hcs.1 hX hbl G (i := i) (j := 2) (by omega) hL rfl dL_law_811 ?_
  refine lw_callR (rest := [.int r]) C hK hcs G lw_q21 [.int (xs (i + 1)), .int (xs (i + 2))] _ (kq_block l Dr h0 hq) rf_blind (lw_BR G hK) (Nat.le_of_ble_eq_true rfl) (Nat.le_of_ble_eq_true rfl) rfl rfl hl.1 (Nat.le_of_ble_eq_true rfl) dL_law_812 (fun H locs G => ?_)
  refine W.eq (g2 := F0 m 815 ls [.int r, .int r]) rfl ?_
  refine lv_icmp_eq (tgt := 1226) C.1 C.2.1 dL_law_815 (by decide) (fun _ => kk _ _ _ _ G) (fun hc => absurd rfl hc)
set_option maxHeartbeats 4000000 in
theorem lw_case22 {i : Nat} {r : Int32} {σ' : cl_S} {ρ' : rf_S} (C : cl_C D p s m args meth c code 4 ret R_law) (hK : rf_K Dr s) (hZ : rf_Zs (s.heap, q9, qv9) h0 s) (hcs : s.heap.size = c0 ∧ D.2.2.2.1 = s.heap) (hX : va_X b L xs s s.heap) (hbl : b < s.heap.size) (hL : L ≤ 320) (hi : i + 5 ≤ L) (G : lw_H D Dr c0 h0 s σ ρ H locs cells slots) (hl : lv_has ls 4 [(3, .int (nI i)), (2, .ref h0), (1, .ref (c0 + 0)), (0, .ref b)]) (hc : lw_fc 22 (xs (i + 1)) (xs (i + 2)) (xs (i + 3)) (xs (i + 4)) σ = some (r, σ')) (hq : lw_fq 22 (xs (i + 1)) (xs (i + 2)) (xs (i + 3)) (xs (i + 4)) ρ = some (r, ρ')) (kk : ∀ (H : Heap) (locs : List Loc) (cells slots : Nat), lw_H D Dr c0 h0 s σ' ρ' H locs cells slots → W p l e room_1 s m args below meth c H locs cells slots Q (F0 m 1226 ls [])) : W p l e room_1 s m args below meth c H locs cells slots Q (F0 m 820 ls []) := by
  refine lv_aload_n C.1 C.2.1 dL_law_820 rfl (lv_at hl 2 rfl) ?_
  refine lv_aload_n C.1 C.2.1 dL_law_821 rfl (lv_at hl 3 rfl) ?_
  refine lv_iload_n C.1 C.2.1 dL_law_822 rfl (lv_at hl 0 rfl) ?_
  refine lv_iconst (v := (1:Int32)) C.1 C.2.1 dL_law_823 (by decide) ?_
  refine lv_iadd C.1 C.2.1 dL_law_824 ?_
  refine lw_ld C hcs.1 hX hbl G (i := i) (j := 1) (by omega) hL rfl dL_law_825 ?_
  refine lv_aload_n C.1 C.2.1 dL_law_826 rfl (lv_at hl 3 rfl) ?_
  refine lv_iload_n C.1 C.2.1 dL_law_827 rfl (lv_at hl 0 rfl) ?_
  refine lv_iconst (v := (2:Int32)) C.1 C.2.1 dL_law_828 (by decide) ?_
  refine lv_iadd C.1 C.2.1 dL_law_829 ?_
  refine lw_ld C hcs.1 hX hbl G (i := i) (j := 2) (by omega) hL rfl dL_law_830 ?_
  refine lv_aload_n C.1 C.2.1 dL_law_831 rfl (lv_at hl 3 rfl) ?_
  refine lv_iload_n C.1 C.2.1 dL_law_832 rfl (lv_at hl 0 rfl) ?_
  refine lv_iconst (v := (3:Int32)) C.1 C.2.1 dL_law_833 (by decide) ?_
  refine lv_iadd C.1 C.2.1 dL_law_834 ?_
  refine lw_ld C hcs.1 hX hbl G (i := i) (j := 3) (by omega) hL rfl dL_law_835 ?_
  refine lw_callC (rest := []) C G lw_c22 [.int (xs (i + 1)), .int (xs (i + 2)), .int (xs (i + 3))] _ (kc_X11_put l D c0 (a := 0) G.2.2.2.2.2 hc) (Nat.le_of_ble_eq_true rfl) (Nat.le_of_ble_eq_true rfl) rfl rfl hl.1 (Nat.le_of_ble_eq_true rfl) dL_law_836 (fun H locs cells slots G => ?_)
  refine W.eq (g2 := F0 m 839 ls [.int r]) rfl ?_
  refine lv_aload_n C.1 C.2.1 dL_law_839 rfl (lv_at hl 1 rfl) ?_
  refine lv_aload_n C.1 C.2.1 dL_law_840 rfl (lv_at hl 3 rfl) ?_
  refine lv_iload_n C.1 C.2.1 dL_law_841 rfl (lv_at hl 0 rfl) ?_
  refine lv_iconst (v := (1:Int32)) C.1 C.2.1 dL_law_842 (by decide) ?_
  refine lv_iadd C.1 C.2.1 dL_law_843 ?_
  refine lw_ld C hcs.1 hX hbl G (i := i) (j := 1) (by omega) hL rfl dL_law_844 ?_
  refine lv_aload_n C.1 C.2.1 dL_law_845 rfl (lv_at hl 3 rfl) ?_
  refine lv_iload_n C.1 C.2.1 dL_law_846 rfl (lv_at hl 0 rfl) ?_
  refine lv_iconst (v := (2:Int32)) C.1 C.2.1 dL_law_847 (by decide) ?_
  refine lv_iadd C.1 C.2.1 dL_law_848 ?_
  refine lw_ld C hcs.1 hX hbl G (i := i) (j := 2) (by omega) hL rfl dL_law_849 ?_
  refine lv_aload_n C.1 C.2.1 dL_law_850 rfl (lv_at hl 3 rfl) ?_
  refine lv_iload_n C.1 C.2.1 dL_law_851 rfl (lv_at hl 0 rfl) ?_
  refine lv_iconst (v := (3:Int32)) C.1 C.2.1 dL_law_852 (by decide) ?_
  refine lv_iadd C.1 C.2.1 dL_law_853 ?_
  refine lw_ld C hcs.1 hX hbl G (i := i) (j := 3) (by omega) hL rfl dL_law_854 ?_
  refine lw_callR (rest := [.int r]) C hK hcs G lw_q22 [.int (xs (i + 1)), .int (xs (i + 2)), .int (xs (i + 3))] _ (kq_put l Dr h0 hq) rf_blind (lw_BR G hK) (Nat.le_of_ble_eq_true rfl) (Nat.le_of_ble_eq_true rfl) rfl rfl hl.1 (Nat.le_of_ble_eq_true rfl) dL_law_855 (fun H locs G => ?_)
  refine W.eq (g2 := F0 m 858 ls [.int r, .int r]) rfl ?_
  refine lv_icmp_eq (tgt := 1226) C.1 C.2.1 dL_law_858 (by decide) (fun _ => kk _ _ _ _ G) (fun hc => absurd rfl hc)
set_option maxHeartbeats 4000000 in
theorem lw_case23 {i : Nat} {r : Int32} {σ' : cl_S} {ρ' : rf_S} (C : cl_C D p s m args meth c code 4 ret R_law) (hK : rf_K Dr s) (hZ : rf_Zs (s.heap, q9, qv9) h0 s) (hcs : s.heap.size = c0 ∧ D.2.2.2.1 = s.heap) (hX : va_X b L xs s s.heap) (hbl : b < s.heap.size) (hL : L ≤ 320) (hi : i + 5 ≤ L) (G : lw_H D Dr c0 h0 s σ ρ H locs cells slots) (hl : lv_has ls 4 [(3, .int (nI i)), (2, .ref h0), (1, .ref (c0 + 0)), (0, .ref b)]) (hc : lw_fc 23 (xs (i + 1)) (xs (i + 2)) (xs (i + 3)) (xs (i + 4)) σ = some (r, σ')) (hq : lw_fq 23 (xs (i + 1)) (xs (i + 2)) (xs (i + 3)) (xs (i + 4)) ρ = some (r, ρ')) (kk : ∀ (H : Heap) (locs : List Loc) (cells slots : Nat), lw_H D Dr c0 h0 s σ' ρ' H locs cells slots → W p l e room_1 s m args below meth c H locs cells slots Q (F0 m 1226 ls [])) : W p l e room_1 s m args below meth c H locs cells slots Q (F0 m 863 ls []) := by
  refine lv_aload_n C.1 C.2.1 dL_law_863 rfl (lv_at hl 2 rfl) ?_
  refine lv_aload_n C.1 C.2.1 dL_law_864 rfl (lv_at hl 3 rfl) ?_
  refine lv_iload_n C.1 C.2.1 dL_law_865 rfl (lv_at hl 0 rfl) ?_
  refine lv_iconst (v := (1:Int32)) C.1 C.2.1 dL_law_866 (by decide) ?_
  refine lv_iadd C.1 C.2.1 dL_law_867 ?_
  refine lw_ld C hcs.1 hX hbl G (i := i) (j := 1) (by omega) hL rfl dL_law_868 ?_
  refine lv_aload_n C.1 C.2.1 dL_law_869 rfl (lv_at hl 3 rfl) ?_
  refine lv_iload_n C.1 C.2.1 dL_law_870 rfl (lv_at hl 0 rfl) ?_
  refine lv_iconst (v := (2:Int32)) C.1 C.2.1 dL_law_871 (by decide) ?_
  refine lv_iadd C.1 C.2.1 dL_law_872 ?_
  refine lw_ld C hcs.1 hX hbl G (i := i) (j := 2) (by omega) hL rfl dL_law_873 ?_
  refine lv_aload_n C.1 C.2.1 dL_law_874 rfl (lv_at hl 3 rfl) ?_
  refine lv_iload_n C.1 C.2.1 dL_law_875 rfl (lv_at hl 0 rfl) ?_
  refine lv_iconst (v := (3:Int32)) C.1 C.2.1 dL_law_876 (by decide) ?_
  refine lv_iadd C.1 C.2.1 dL_law_877 ?_
  refine lw_ld C hcs.1 hX hbl G (i := i) (j := 3) (by omega) hL rfl dL_law_878 ?_
  refine lv_aload_n C.1 C.2.1 dL_law_879 rfl (lv_at hl 3 rfl) ?_
  refine lv_iload_n C.1 C.2.1 dL_law_880 rfl (lv_at hl 0 rfl) ?_
  refine lv_iconst (v := (4:Int32)) C.1 C.2.1 dL_law_881 (by decide) ?_
  refine lv_iadd C.1 C.2.1 dL_law_882 ?_
  refine lw_ld C hcs.1 hX hbl G (i := i) (j := 4) (by omega) hL rfl dL_law_883 ?_
  refine lw_callC (rest := []) C G lw_c23 [.int (xs (i + 1)), .int (xs (i + 2)), .int (xs (i + 3)), .int (xs (i + 4))] _ (kc_X11_make l D c0 (a := 0) G.2.2.2.2.2 hc) (Nat.le_of_ble_eq_true rfl) (Nat.le_of_ble_eq_true rfl) rfl rfl hl.1 (Nat.le_of_ble_eq_true rfl) dL_law_884 (fun H locs cells slots G => ?_)
  refine W.eq (g2 := F0 m 887 ls [.int r]) rfl ?_
  refine lv_aload_n C.1 C.2.1 dL_law_887 rfl (lv_at hl 1 rfl) ?_
  refine lv_aload_n C.1 C.2.1 dL_law_888 rfl (lv_at hl 3 rfl) ?_
  refine lv_iload_n C.1 C.2.1 dL_law_889 rfl (lv_at hl 0 rfl) ?_
  refine lv_iconst (v := (1:Int32)) C.1 C.2.1 dL_law_890 (by decide) ?_
  refine lv_iadd C.1 C.2.1 dL_law_891 ?_
  refine lw_ld C hcs.1 hX hbl G (i := i) (j := 1) (by omega) hL rfl dL_law_892 ?_
  refine lv_aload_n C.1 C.2.1 dL_law_893 rfl (lv_at hl 3 rfl) ?_
  refine lv_iload_n C.1 C.2.1 dL_law_894 rfl (lv_at hl 0 rfl) ?_
  refine lv_iconst (v := (2:Int32)) C.1 C.2.1 dL_law_895 (by decide) ?_
  refine lv_iadd C.1 C.2.1 dL_law_896 ?_
  refine lw_ld C hcs.1 hX hbl G (i := i) (j := 2) (by omega) hL rfl dL_law_897 ?_
  refine lv_aload_n C.1 C.2.1 dL_law_898 rfl (lv_at hl 3 rfl) ?_
  refine lv_iload_n C.1 C.2.1 dL_law_899 rfl (lv_at hl 0 rfl) ?_
  refine lv_iconst (v := (3:Int32)) C.1 C.2.1 dL_law_900 (by decide) ?_
  refine lv_iadd C.1 C.2.1 dL_law_901 ?_
  refine lw_ld C hcs.1 hX hbl G (i := i) (j := 3) (by omega) hL rfl dL_law_902 ?_
  refine lv_aload_n C.1 C.2.1 dL_law_903 rfl (lv_at hl 3 rfl) ?_
  refine lv_iload_n C.1 C.2.1 dL_law_904 rfl (lv_at hl 0 rfl) ?_
  refine lv_iconst (v := (4:Int32)) C.1 C.2.1 dL_law_905 (by decide) ?_
  refine lv_iadd C.1 C.2.1 dL_law_906 ?_
  refine lw_ld C hcs.1 hX hbl G (i := i) (j := 4) (by omega) hL rfl dL_law_907 ?_
  refine lw_callR (rest := [.int r]) C hK hcs G lw_q23 [.int (xs (i + 1)), .int (xs (i + 2)), .int (xs (i + 3)), .int (xs (i + 4))] _ (kq_make l Dr h0 hq) rf_blind (lw_BR G hK) (Nat.le_of_ble_eq_true rfl) (Nat.le_of_ble_eq_true rfl) rfl rfl hl.1 (Nat.le_of_ble_eq_true rfl) dL_law_908 (fun H locs G => ?_)
  refine W.eq (g2 := F0 m 911 ls [.int r, .int r]) rfl ?_
  refine lv_icmp_eq (tgt := 1226) C.1 C.2.1 dL_law_911 (by decide) (fun _ => kk _ _ _ _ G) (fun hc => absurd rfl hc)
set_option maxHeartbeats 4000000 in
theorem lw_case24 {i : Nat} {r : Int32} {σ' : cl_S} {ρ' : rf_S} (C : cl_C D p s m args meth c code 4 ret R_law) (hK : rf_K Dr s) (hZ : rf_Zs (s.heap, q9, qv9) h0 s) (hcs : s.heap.size = c0 ∧ D.2.2.2.1 = s.heap) (hX : va_X b L xs s s.heap) (hbl : b < s.heap.size) (hL : L ≤ 320) (hi : i + 5 ≤ L) (G : lw_H D Dr c0 h0 s σ ρ H locs cells slots) (hl : lv_has ls 4 [(3, .int (nI i)), (2, .ref h0), (1, .ref (c0 + 0)), (0, .ref b)]) (hc : lw_fc 24 (xs (i + 1)) (xs (i + 2)) (xs (i + 3)) (xs (i + 4)) σ = some (r, σ')) (hq : lw_fq 24 (xs (i + 1)) (xs (i + 2)) (xs (i + 3)) (xs (i + 4)) ρ = some (r, ρ')) (kk : ∀ (H : Heap) (locs : List Loc) (cells slots : Nat), lw_H D Dr c0 h0 s σ' ρ' H locs cells slots → W p l e room_1 s m args below meth c H locs cells slots Q (F0 m 1226 ls [])) : W p l e room_1 s m args below meth c H locs cells slots Q (F0 m 916 ls []) := by
  refine lv_aload_n C.1 C.2.1 dL_law_916 rfl (lv_at hl 2 rfl) ?_
  refine lv_aload_n C.1 C.2.1 dL_law_917 rfl (lv_at hl 3 rfl) ?_
  refine lv_iload_n C.1 C.2.1 dL_law_918 rfl (lv_at hl 0 rfl) ?_
  refine lv_iconst (v := (1:Int32)) C.1 C.2.1 dL_law_919 (by decide) ?_
  refine lv_iadd C.1 C.2.1 dL_law_920 ?_
  refine lw_ld C hcs.1 hX hbl G (i := i) (j := 1) (by omega) hL rfl dL_law_921 ?_
  refine lv_aload_n C.1 C.2.1 dL_law_922 rfl (lv_at hl 3 rfl) ?_
  refine lv_iload_n C.1 C.2.1 dL_law_923 rfl (lv_at hl 0 rfl) ?_
  refine lv_iconst (v := (2:Int32)) C.1 C.2.1 dL_law_924 (by decide) ?_
  refine lv_iadd C.1 C.2.1 dL_law_925 ?_
  refine lw_ld C hcs.1 hX hbl G (i := i) (j := 2) (by omega) hL rfl dL_law_926 ?_
  refine lv_aload_n C.1 C.2.1 dL_law_927 rfl (lv_at hl 3 rfl) ?_
  refine lv_iload_n C.1 C.2.1 dL_law_928 rfl (lv_at hl 0 rfl) ?_
  refine lv_iconst (v := (3:Int32)) C.1 C.2.1 dL_law_929 (by decide) ?_
  refine lv_iadd C.1 C.2.1 dL_law_930 ?_
  refine lw_ld C hcs.1 hX hbl G (i := i) (j := 3) (by omega) hL rfl dL_law_931 ?_
  refine lw_callC (rest := []) C G lw_c24 [.int (xs (i + 1)), .int (xs (i + 2)), .int (xs (i + 3))] _ (kc_X11_take l D c0 (a := 0) G.2.2.2.2.2 hc) (Nat.le_of_ble_eq_true rfl) (Nat.le_of_ble_eq_true rfl) rfl rfl hl.1 (Nat.le_of_ble_eq_true rfl) dL_law_932 (fun H locs cells slots G => ?_)
  refine W.eq (g2 := F0 m 935 ls [.int r]) rfl ?_
  refine lv_aload_n C.1 C.2.1 dL_law_935 rfl (lv_at hl 1 rfl) ?_
  refine lv_aload_n C.1 C.2.1 dL_law_936 rfl (lv_at hl 3 rfl) ?_
  refine lv_iload_n C.1 C.2.1 dL_law_937 rfl (lv_at hl 0 rfl) ?_
  refine lv_iconst (v := (1:Int32)) C.1 C.2.1 dL_law_938 (by decide) ?_
  refine lv_iadd C.1 C.2.1 dL_law_939 ?_
  refine lw_ld C hcs.1 hX hbl G (i := i) (j := 1) (by omega) hL rfl dL_law_940 ?_
  refine lv_aload_n C.1 C.2.1 dL_law_941 rfl (lv_at hl 3 rfl) ?_
  refine lv_iload_n C.1 C.2.1 dL_law_942 rfl (lv_at hl 0 rfl) ?_
  refine lv_iconst (v := (2:Int32)) C.1 C.2.1 dL_law_943 (by decide) ?_
  refine lv_iadd C.1 C.2.1 dL_law_944 ?_
  refine lw_ld C hcs.1 hX hbl G (i := i) (j := 2) (by omega) hL rfl dL_law_945 ?_
  refine lv_aload_n C.1 C.2.1 dL_law_946 rfl (lv_at hl 3 rfl) ?_
  refine lv_iload_n C.1 C.2.1 dL_law_947 rfl (lv_at hl 0 rfl) ?_
  refine lv_iconst (v := (3:Int32)) C.1 C.2.1 dL_law_948 (by decide) ?_
  refine lv_iadd C.1 C.2.1 dL_law_949 ?_
  refine lw_ld C hcs.1 hX hbl G (i := i) (j := 3) (by omega) hL rfl dL_law_950 ?_
  refine lw_callR (rest := [.int r]) C hK hcs G lw_q24 [.int (xs (i + 1)), .int (xs (i + 2)), .int (xs (i + 3))] _ (kq_take l Dr h0 hq) rf_blind (lw_BR G hK) (Nat.le_of_ble_eq_true rfl) (Nat.le_of_ble_eq_true rfl) rfl rfl hl.1 (Nat.le_of_ble_eq_true rfl) dL_law_951 (fun H locs G => ?_)
  refine W.eq (g2 := F0 m 954 ls [.int r, .int r]) rfl ?_
  refine lv_icmp_eq (tgt := 1226) C.1 C.2.1 dL_law_954 (by decide) (fun _ => kk _ _ _ _ G) (fun hc => absurd rfl hc)
set_option maxHeartbeats 4000000 in
theorem lw_case25 {i : Nat} {r : Int32} {σ' : cl_S} {ρ' : rf_S} (C : cl_C D p s m args meth c code 4 ret R_law) (hK : rf_K Dr s) (hZ : rf_Zs (s.heap, q9, qv9) h0 s) (hcs : s.heap.size = c0 ∧ D.2.2.2.1 = s.heap) (hX : va_X b L xs s s.heap) (hbl : b < s.heap.size) (hL : L ≤ 320) (hi : i + 5 ≤ L) (G : lw_H D Dr c0 h0 s σ ρ H locs cells slots) (hl : lv_has ls 4 [(3, .int (nI i)), (2, .ref h0), (1, .ref (c0 + 0)), (0, .ref b)]) (hc : lw_fc 25 (xs (i + 1)) (xs (i + 2)) (xs (i + 3)) (xs (i + 4)) σ = some (r, σ')) (hq : lw_fq 25 (xs (i + 1)) (xs (i + 2)) (xs (i + 3)) (xs (i + 4)) ρ = some (r, ρ')) (kk : ∀ (H : Heap) (locs : List Loc) (cells slots : Nat), lw_H D Dr c0 h0 s σ' ρ' H locs cells slots → W p l e room_1 s m args below meth c H locs cells slots Q (F0 m 1226 ls [])) : W p l e room_1 s m args below meth c H locs cells slots Q (F0 m 959 ls []) := by
  refine lv_aload_n C.1 C.2.1 dL_law_959 rfl (lv_at hl 2 rfl) ?_
  refine lv_aload_n C.1 C.2.1 dL_law_960 rfl (lv_at hl 3 rfl) ?_
  refine lv_iload_n C.1 C.2.1 dL_law_961 rfl (lv_at hl 0 rfl) ?_
  refine lv_iconst (v := (1:Int32)) C.1 C.2.1 dL_law_962 (by decide) ?_
  refine lv_iadd C.1 C.2.1 dL_law_963 ?_
  refine lw_ld C hcs.1 hX hbl G (i := i) (j := 1) (by omega) hL rfl dL_law_964 ?_
  refine lw_callC (rest := []) C G lw_c25 [.int (xs (i + 1))] _ (kc_X11_kind l D c0 (a := 0) G.2.2.2.2.2 hc) (Nat.le_of_ble_eq_true rfl) (Nat.le_of_ble_eq_true rfl) rfl rfl hl.1 (Nat.le_of_ble_eq_true rfl) dL_law_965 (fun H locs cells slots G => ?_)
  refine W.eq (g2 := F0 m 968 ls [.int r]) rfl ?_
  refine lv_aload_n C.1 C.2.1 dL_law_968 rfl (lv_at hl 1 rfl) ?_
  refine lv_aload_n C.1 C.2.1 dL_law_969 rfl (lv_at hl 3 rfl) ?_
  refine lv_iload_n C.1 C.2.1 dL_law_970 rfl (lv_at hl 0 rfl) ?_
  refine lv_iconst (v := (1:Int32)) C.1 C.2.1 dL_law_971 (by decide) ?_
  refine lv_iadd C.1 C.2.1 dL_law_972 ?_
  refine lw_ld C hcs.1 hX hbl G (i := i) (j := 1) (by omega) hL rfl dL_law_973 ?_
  refine lw_callR (rest := [.int r]) C hK hcs G lw_q25 [.int (xs (i + 1))] _ (kq_kind l Dr h0 hq) rf_blind (lw_BR G hK) (Nat.le_of_ble_eq_true rfl) (Nat.le_of_ble_eq_true rfl) rfl rfl hl.1 (Nat.le_of_ble_eq_true rfl) dL_law_974 (fun H locs G => ?_)
  refine W.eq (g2 := F0 m 977 ls [.int r, .int r]) rfl ?_
  refine lv_icmp_eq (tgt := 1226) C.1 C.2.1 dL_law_977 (by decide) (fun _ => kk _ _ _ _ G) (fun hc => absurd rfl hc)
set_option maxHeartbeats 4000000 in
theorem lw_case26 {i : Nat} {r : Int32} {σ' : cl_S} {ρ' : rf_S} (C : cl_C D p s m args meth c code 4 ret R_law) (hK : rf_K Dr s) (hZ : rf_Zs (s.heap, q9, qv9) h0 s) (hcs : s.heap.size = c0 ∧ D.2.2.2.1 = s.heap) (hX : va_X b L xs s s.heap) (hbl : b < s.heap.size) (hL : L ≤ 320) (hi : i + 5 ≤ L) (G : lw_H D Dr c0 h0 s σ ρ H locs cells slots) (hl : lv_has ls 4 [(3, .int (nI i)), (2, .ref h0), (1, .ref (c0 + 0)), (0, .ref b)]) (hc : lw_fc 26 (xs (i + 1)) (xs (i + 2)) (xs (i + 3)) (xs (i + 4)) σ = some (r, σ')) (hq : lw_fq 26 (xs (i + 1)) (xs (i + 2)) (xs (i + 3)) (xs (i + 4)) ρ = some (r, ρ')) (kk : ∀ (H : Heap) (locs : List Loc) (cells slots : Nat), lw_H D Dr c0 h0 s σ' ρ' H locs cells slots → W p l e room_1 s m args below meth c H locs cells slots Q (F0 m 1226 ls [])) : W p l e room_1 s m args below meth c H locs cells slots Q (F0 m 982 ls []) := by
  refine lv_aload_n C.1 C.2.1 dL_law_982 rfl (lv_at hl 2 rfl) ?_
  refine lv_aload_n C.1 C.2.1 dL_law_983 rfl (lv_at hl 3 rfl) ?_
  refine lv_iload_n C.1 C.2.1 dL_law_984 rfl (lv_at hl 0 rfl) ?_
  refine lv_iconst (v := (1:Int32)) C.1 C.2.1 dL_law_985 (by decide) ?_
  refine lv_iadd C.1 C.2.1 dL_law_986 ?_
  refine lw_ld C hcs.1 hX hbl G (i := i) (j := 1) (by omega) hL rfl dL_law_987 ?_
  refine lw_callC (rest := []) C G lw_c26 [.int (xs (i + 1))] _ (kc_X11_number l D c0 (a := 0) G.2.2.2.2.2 hc) (Nat.le_of_ble_eq_true rfl) (Nat.le_of_ble_eq_true rfl) rfl rfl hl.1 (Nat.le_of_ble_eq_true rfl) dL_law_988 (fun H locs cells slots G => ?_)
  refine W.eq (g2 := F0 m 991 ls [.int r]) rfl ?_
  refine lv_aload_n C.1 C.2.1 dL_law_991 rfl (lv_at hl 1 rfl) ?_
  refine lv_aload_n C.1 C.2.1 dL_law_992 rfl (lv_at hl 3 rfl) ?_
  refine lv_iload_n C.1 C.2.1 dL_law_993 rfl (lv_at hl 0 rfl) ?_
  refine lv_iconst (v := (1:Int32)) C.1 C.2.1 dL_law_994 (by decide) ?_
  refine lv_iadd C.1 C.2.1 dL_law_995 ?_
  refine lw_ld C hcs.1 hX hbl G (i := i) (j := 1) (by omega) hL rfl dL_law_996 ?_
  refine lw_callR (rest := [.int r]) C hK hcs G lw_q26 [.int (xs (i + 1))] _ (kq_number l Dr h0 hq) rf_blind (lw_BR G hK) (Nat.le_of_ble_eq_true rfl) (Nat.le_of_ble_eq_true rfl) rfl rfl hl.1 (Nat.le_of_ble_eq_true rfl) dL_law_997 (fun H locs G => ?_)
  refine W.eq (g2 := F0 m 1000 ls [.int r, .int r]) rfl ?_
  refine lv_icmp_eq (tgt := 1226) C.1 C.2.1 dL_law_1000 (by decide) (fun _ => kk _ _ _ _ G) (fun hc => absurd rfl hc)
set_option maxHeartbeats 4000000 in
theorem lw_case27 {i : Nat} {r : Int32} {σ' : cl_S} {ρ' : rf_S} (C : cl_C D p s m args meth c code 4 ret R_law) (hK : rf_K Dr s) (hZ : rf_Zs (s.heap, q9, qv9) h0 s) (hcs : s.heap.size = c0 ∧ D.2.2.2.1 = s.heap) (hX : va_X b L xs s s.heap) (hbl : b < s.heap.size) (hL : L ≤ 320) (hi : i + 5 ≤ L) (G : lw_H D Dr c0 h0 s σ ρ H locs cells slots) (hl : lv_has ls 4 [(3, .int (nI i)), (2, .ref h0), (1, .ref (c0 + 0)), (0, .ref b)]) (hc : lw_fc 27 (xs (i + 1)) (xs (i + 2)) (xs (i + 3)) (xs (i + 4)) σ = some (r, σ')) (hq : lw_fq 27 (xs (i + 1)) (xs (i + 2)) (xs (i + 3)) (xs (i + 4)) ρ = some (r, ρ')) (kk : ∀ (H : Heap) (locs : List Loc) (cells slots : Nat), lw_H D Dr c0 h0 s σ' ρ' H locs cells slots → W p l e room_1 s m args below meth c H locs cells slots Q (F0 m 1226 ls [])) : W p l e room_1 s m args below meth c H locs cells slots Q (F0 m 1005 ls []) := by
  refine lv_aload_n C.1 C.2.1 dL_law_1005 rfl (lv_at hl 2 rfl) ?_
  refine lv_aload_n C.1 C.2.1 dL_law_1006 rfl (lv_at hl 3 rfl) ?_
  refine lv_iload_n C.1 C.2.1 dL_law_1007 rfl (lv_at hl 0 rfl) ?_
  refine lv_iconst (v := (1:Int32)) C.1 C.2.1 dL_law_1008 (by decide) ?_
  refine lv_iadd C.1 C.2.1 dL_law_1009 ?_
  refine lw_ld C hcs.1 hX hbl G (i := i) (j := 1) (by omega) hL rfl dL_law_1010 ?_
  refine lw_callC (rest := []) C G lw_c27 [.int (xs (i + 1))] _ (kc_X11_measure l D c0 (a := 0) G.2.2.2.2.2 hc) (Nat.le_of_ble_eq_true rfl) (Nat.le_of_ble_eq_true rfl) rfl rfl hl.1 (Nat.le_of_ble_eq_true rfl) dL_law_1011 (fun H locs cells slots G => ?_)
  refine W.eq (g2 := F0 m 1014 ls [.int r]) rfl ?_
  refine lv_aload_n C.1 C.2.1 dL_law_1014 rfl (lv_at hl 1 rfl) ?_
  refine lv_aload_n C.1 C.2.1 dL_law_1015 rfl (lv_at hl 3 rfl) ?_
  refine lv_iload_n C.1 C.2.1 dL_law_1016 rfl (lv_at hl 0 rfl) ?_
  refine lv_iconst (v := (1:Int32)) C.1 C.2.1 dL_law_1017 (by decide) ?_
  refine lv_iadd C.1 C.2.1 dL_law_1018 ?_
  refine lw_ld C hcs.1 hX hbl G (i := i) (j := 1) (by omega) hL rfl dL_law_1019 ?_
  refine lw_callR (rest := [.int r]) C hK hcs G lw_q27 [.int (xs (i + 1))] _ (kq_measure l Dr h0 hq) rf_blind (lw_BR G hK) (Nat.le_of_ble_eq_true rfl) (Nat.le_of_ble_eq_true rfl) rfl rfl hl.1 (Nat.le_of_ble_eq_true rfl) dL_law_1020 (fun H locs G => ?_)
  refine W.eq (g2 := F0 m 1023 ls [.int r, .int r]) rfl ?_
  refine lv_icmp_eq (tgt := 1226) C.1 C.2.1 dL_law_1023 (by decide) (fun _ => kk _ _ _ _ G) (fun hc => absurd rfl hc)
set_option maxHeartbeats 4000000 in
theorem lw_case28 {i : Nat} {r : Int32} {σ' : cl_S} {ρ' : rf_S} (C : cl_C D p s m args meth c code 4 ret R_law) (hK : rf_K Dr s) (hZ : rf_Zs (s.heap, q9, qv9) h0 s) (hcs : s.heap.size = c0 ∧ D.2.2.2.1 = s.heap) (hX : va_X b L xs s s.heap) (hbl : b < s.heap.size) (hL : L ≤ 320) (hi : i + 5 ≤ L) (G : lw_H D Dr c0 h0 s σ ρ H locs cells slots) (hl : lv_has ls 4 [(3, .int (nI i)), (2, .ref h0), (1, .ref (c0 + 0)), (0, .ref b)]) (hc : lw_fc 28 (xs (i + 1)) (xs (i + 2)) (xs (i + 3)) (xs (i + 4)) σ = some (r, σ')) (hq : lw_fq 28 (xs (i + 1)) (xs (i + 2)) (xs (i + 3)) (xs (i + 4)) ρ = some (r, ρ')) (kk : ∀ (H : Heap) (locs : List Loc) (cells slots : Nat), lw_H D Dr c0 h0 s σ' ρ' H locs cells slots → W p l e room_1 s m args below meth c H locs cells slots Q (F0 m 1226 ls [])) : W p l e room_1 s m args below meth c H locs cells slots Q (F0 m 1028 ls []) := by
  refine lv_aload_n C.1 C.2.1 dL_law_1028 rfl (lv_at hl 2 rfl) ?_
  refine lv_aload_n C.1 C.2.1 dL_law_1029 rfl (lv_at hl 3 rfl) ?_
  refine lv_iload_n C.1 C.2.1 dL_law_1030 rfl (lv_at hl 0 rfl) ?_
  refine lv_iconst (v := (1:Int32)) C.1 C.2.1 dL_law_1031 (by decide) ?_
  refine lv_iadd C.1 C.2.1 dL_law_1032 ?_
  refine lw_ld C hcs.1 hX hbl G (i := i) (j := 1) (by omega) hL rfl dL_law_1033 ?_
  refine lv_aload_n C.1 C.2.1 dL_law_1034 rfl (lv_at hl 3 rfl) ?_
  refine lv_iload_n C.1 C.2.1 dL_law_1035 rfl (lv_at hl 0 rfl) ?_
  refine lv_iconst (v := (2:Int32)) C.1 C.2.1 dL_law_1036 (by decide) ?_
  refine lv_iadd C.1 C.2.1 dL_law_1037 ?_
  refine lw_ld C hcs.1 hX hbl G (i := i) (j := 2) (by omega) hL rfl dL_law_1038 ?_
  refine lw_callC (rest := []) C G lw_c28 [.int (xs (i + 1)), .int (xs (i + 2))] _ (kc_X11_knows l D c0 (a := 0) G.2.2.2.2.2 hc) (Nat.le_of_ble_eq_true rfl) (Nat.le_of_ble_eq_true rfl) rfl rfl hl.1 (Nat.le_of_ble_eq_true rfl) dL_law_1039 (fun H locs cells slots G => ?_)
  refine W.eq (g2 := F0 m 1042 ls [.int r]) rfl ?_
  refine lv_aload_n C.1 C.2.1 dL_law_1042 rfl (lv_at hl 1 rfl) ?_
  refine lv_aload_n C.1 C.2.1 dL_law_1043 rfl (lv_at hl 3 rfl) ?_
  refine lv_iload_n C.1 C.2.1 dL_law_1044 rfl (lv_at hl 0 rfl) ?_
  refine lv_iconst (v := (1:Int32)) C.1 C.2.1 dL_law_1045 (by decide) ?_
  refine lv_iadd C.1 C.2.1 dL_law_1046 ?_
  refine lw_ld C hcs.1 hX hbl G (i := i) (j := 1) (by omega) hL rfl dL_law_1047 ?_
  refine lv_aload_n C.1 C.2.1 dL_law_1048 rfl (lv_at hl 3 rfl) ?_
  refine lv_iload_n C.1 C.2.1 dL_law_1049 rfl (lv_at hl 0 rfl) ?_
  refine lv_iconst (v := (2:Int32)) C.1 C.2.1 dL_law_1050 (by decide) ?_
  refine lv_iadd C.1 C.2.1 dL_law_1051 ?_
  refine lw_ld C hcs.1 hX hbl G (i := i) (j := 2) (by omega) hL rfl dL_law_1052 ?_
  refine lw_callR (rest := [.int r]) C hK hcs G lw_q28 [.int (xs (i + 1)), .int (xs (i + 2))] _ (kq_knows l Dr h0 hq) rf_blind (lw_BR G hK) (Nat.le_of_ble_eq_true rfl) (Nat.le_of_ble_eq_true rfl) rfl rfl hl.1 (Nat.le_of_ble_eq_true rfl) dL_law_1053 (fun H locs G => ?_)
  refine W.eq (g2 := F0 m 1056 ls [.int r, .int r]) rfl ?_
  refine lv_icmp_eq (tgt := 1226) C.1 C.2.1 dL_law_1056 (by decide) (fun _ => kk _ _ _ _ G) (fun hc => absurd rfl hc)
set_option maxHeartbeats 4000000 in
theorem lw_case29 {i : Nat} {r : Int32} {σ' : cl_S} {ρ' : rf_S} (C : cl_C D p s m args meth c code 4 ret R_law) (hK : rf_K Dr s) (hZ : rf_Zs (s.heap, q9, qv9) h0 s) (hcs : s.heap.size = c0 ∧ D.2.2.2.1 = s.heap) (hX : va_X b L xs s s.heap) (hbl : b < s.heap.size) (hL : L ≤ 320) (hi : i + 5 ≤ L) (G : lw_H D Dr c0 h0 s σ ρ H locs cells slots) (hl : lv_has ls 4 [(3, .int (nI i)), (2, .ref h0), (1, .ref (c0 + 0)), (0, .ref b)]) (hc : lw_fc 29 (xs (i + 1)) (xs (i + 2)) (xs (i + 3)) (xs (i + 4)) σ = some (r, σ')) (hq : lw_fq 29 (xs (i + 1)) (xs (i + 2)) (xs (i + 3)) (xs (i + 4)) ρ = some (r, ρ')) (kk : ∀ (H : Heap) (locs : List Loc) (cells slots : Nat), lw_H D Dr c0 h0 s σ' ρ' H locs cells slots → W p l e room_1 s m args below meth c H locs cells slots Q (F0 m 1226 ls [])) : W p l e room_1 s m args below meth c H locs cells slots Q (F0 m 1061 ls []) := by
  refine lv_aload_n C.1 C.2.1 dL_law_1061 rfl (lv_at hl 2 rfl) ?_
  refine lv_aload_n C.1 C.2.1 dL_law_1062 rfl (lv_at hl 3 rfl) ?_
  refine lv_iload_n C.1 C.2.1 dL_law_1063 rfl (lv_at hl 0 rfl) ?_
  refine lv_iconst (v := (1:Int32)) C.1 C.2.1 dL_law_1064 (by decide) ?_
  refine lv_iadd C.1 C.2.1 dL_law_1065 ?_
  refine lw_ld C hcs.1 hX hbl G (i := i) (j := 1) (by omega) hL rfl dL_law_1066 ?_
  refine lv_aload_n C.1 C.2.1 dL_law_1067 rfl (lv_at hl 3 rfl) ?_
  refine lv_iload_n C.1 C.2.1 dL_law_1068 rfl (lv_at hl 0 rfl) ?_
  refine lv_iconst (v := (2:Int32)) C.1 C.2.1 dL_law_1069 (by decide) ?_
  refine lv_iadd C.1 C.2.1 dL_law_1070 ?_
  refine lw_ld C hcs.1 hX hbl G (i := i) (j := 2) (by omega) hL rfl dL_law_1071 ?_
  refine lw_callC (rest := []) C G lw_c29 [.int (xs (i + 1)), .int (xs (i + 2))] _ (kc_X11_far l D c0 (a := 0) G.2.2.2.2.2 hc) (Nat.le_of_ble_eq_true rfl) (Nat.le_of_ble_eq_true rfl) rfl rfl hl.1 (Nat.le_of_ble_eq_true rfl) dL_law_1072 (fun H locs cells slots G => ?_)
  refine W.eq (g2 := F0 m 1075 ls [.int r]) rfl ?_
  refine lv_aload_n C.1 C.2.1 dL_law_1075 rfl (lv_at hl 1 rfl) ?_
  refine lv_aload_n C.1 C.2.1 dL_law_1076 rfl (lv_at hl 3 rfl) ?_
  refine lv_iload_n C.1 C.2.1 dL_law_1077 rfl (lv_at hl 0 rfl) ?_
  refine lv_iconst (v := (1:Int32)) C.1 C.2.1 dL_law_1078 (by decide) ?_
  refine lv_iadd C.1 C.2.1 dL_law_1079 ?_
  refine lw_ld C hcs.1 hX hbl G (i := i) (j := 1) (by omega) hL rfl dL_law_1080 ?_
  refine lv_aload_n C.1 C.2.1 dL_law_1081 rfl (lv_at hl 3 rfl) ?_
  refine lv_iload_n C.1 C.2.1 dL_law_1082 rfl (lv_at hl 0 rfl) ?_
  refine lv_iconst (v := (2:Int32)) C.1 C.2.1 dL_law_1083 (by decide) ?_
  refine lv_iadd C.1 C.2.1 dL_law_1084 ?_
  refine lw_ld C hcs.1 hX hbl G (i := i) (j := 2) (by omega) hL rfl dL_law_1085 ?_
  refine lw_callR (rest := [.int r]) C hK hcs G lw_q29 [.int (xs (i + 1)), .int (xs (i + 2))] _ (kq_far l Dr h0 hq) rf_blind (lw_BR G hK) (Nat.le_of_ble_eq_true rfl) (Nat.le_of_ble_eq_true rfl) rfl rfl hl.1 (Nat.le_of_ble_eq_true rfl) dL_law_1086 (fun H locs G => ?_)
  refine W.eq (g2 := F0 m 1089 ls [.int r, .int r]) rfl ?_
  refine lv_icmp_eq (tgt := 1226) C.1 C.2.1 dL_law_1089 (by decide) (fun _ => kk _ _ _ _ G) (fun hc => absurd rfl hc)
set_option maxHeartbeats 4000000 in
theorem lw_case30 {i : Nat} {r : Int32} {σ' : cl_S} {ρ' : rf_S} (C : cl_C D p s m args meth c code 4 ret R_law) (hK : rf_K Dr s) (hZ : rf_Zs (s.heap, q9, qv9) h0 s) (hcs : s.heap.size = c0 ∧ D.2.2.2.1 = s.heap) (hX : va_X b L xs s s.heap) (hbl : b < s.heap.size) (hL : L ≤ 320) (hi : i + 5 ≤ L) (G : lw_H D Dr c0 h0 s σ ρ H locs cells slots) (hl : lv_has ls 4 [(3, .int (nI i)), (2, .ref h0), (1, .ref (c0 + 0)), (0, .ref b)]) (hc : lw_fc 30 (xs (i + 1)) (xs (i + 2)) (xs (i + 3)) (xs (i + 4)) σ = some (r, σ')) (hq : lw_fq 30 (xs (i + 1)) (xs (i + 2)) (xs (i + 3)) (xs (i + 4)) ρ = some (r, ρ')) (kk : ∀ (H : Heap) (locs : List Loc) (cells slots : Nat), lw_H D Dr c0 h0 s σ' ρ' H locs cells slots → W p l e room_1 s m args below meth c H locs cells slots Q (F0 m 1226 ls [])) : W p l e room_1 s m args below meth c H locs cells slots Q (F0 m 1094 ls []) := by
  refine lv_aload_n C.1 C.2.1 dL_law_1094 rfl (lv_at hl 2 rfl) ?_
  refine lv_aload_n C.1 C.2.1 dL_law_1095 rfl (lv_at hl 3 rfl) ?_
  refine lv_iload_n C.1 C.2.1 dL_law_1096 rfl (lv_at hl 0 rfl) ?_
  refine lv_iconst (v := (1:Int32)) C.1 C.2.1 dL_law_1097 (by decide) ?_
  refine lv_iadd C.1 C.2.1 dL_law_1098 ?_
  refine lw_ld C hcs.1 hX hbl G (i := i) (j := 1) (by omega) hL rfl dL_law_1099 ?_
  refine lv_aload_n C.1 C.2.1 dL_law_1100 rfl (lv_at hl 3 rfl) ?_
  refine lv_iload_n C.1 C.2.1 dL_law_1101 rfl (lv_at hl 0 rfl) ?_
  refine lv_iconst (v := (2:Int32)) C.1 C.2.1 dL_law_1102 (by decide) ?_
  refine lv_iadd C.1 C.2.1 dL_law_1103 ?_
  refine lw_ld C hcs.1 hX hbl G (i := i) (j := 2) (by omega) hL rfl dL_law_1104 ?_
  refine lv_aload_n C.1 C.2.1 dL_law_1105 rfl (lv_at hl 3 rfl) ?_
  refine lv_iload_n C.1 C.2.1 dL_law_1106 rfl (lv_at hl 0 rfl) ?_
  refine lv_iconst (v := (3:Int32)) C.1 C.2.1 dL_law_1107 (by decide) ?_
  refine lv_iadd C.1 C.2.1 dL_law_1108 ?_
  refine lw_ld C hcs.1 hX hbl G (i := i) (j := 3) (by omega) hL rfl dL_law_1109 ?_
  refine lv_aload_n C.1 C.2.1 dL_law_1110 rfl (lv_at hl 3 rfl) ?_
  refine lv_iload_n C.1 C.2.1 dL_law_1111 rfl (lv_at hl 0 rfl) ?_
  refine lv_iconst (v := (4:Int32)) C.1 C.2.1 dL_law_1112 (by decide) ?_
  refine lv_iadd C.1 C.2.1 dL_law_1113 ?_
  refine lw_ld C hcs.1 hX hbl G (i := i) (j := 4) (by omega) hL rfl dL_law_1114 ?_
  refine lw_callC (rest := []) C G lw_c30 [.int (xs (i + 1)), .int (xs (i + 2)), .int (xs (i + 3)), .int (xs (i + 4))] _ (kc_X11_same l D c0 (a := 0) G.2.2.2.2.2 hc) (Nat.le_of_ble_eq_true rfl) (Nat.le_of_ble_eq_true rfl) rfl rfl hl.1 (Nat.le_of_ble_eq_true rfl) dL_law_1115 (fun H locs cells slots G => ?_)
  refine W.eq (g2 := F0 m 1118 ls [.int r]) rfl ?_
  refine lv_aload_n C.1 C.2.1 dL_law_1118 rfl (lv_at hl 1 rfl) ?_
  refine lv_aload_n C.1 C.2.1 dL_law_1119 rfl (lv_at hl 3 rfl) ?_
  refine lv_iload_n C.1 C.2.1 dL_law_1120 rfl (lv_at hl 0 rfl) ?_
  refine lv_iconst (v := (1:Int32)) C.1 C.2.1 dL_law_1121 (by decide) ?_
  refine lv_iadd C.1 C.2.1 dL_law_1122 ?_
  refine lw_ld C hcs.1 hX hbl G (i := i) (j := 1) (by omega) hL rfl dL_law_1123 ?_
  refine lv_aload_n C.1 C.2.1 dL_law_1124 rfl (lv_at hl 3 rfl) ?_
  refine lv_iload_n C.1 C.2.1 dL_law_1125 rfl (lv_at hl 0 rfl) ?_
  refine lv_iconst (v := (2:Int32)) C.1 C.2.1 dL_law_1126 (by decide) ?_
  refine lv_iadd C.1 C.2.1 dL_law_1127 ?_
  refine lw_ld C hcs.1 hX hbl G (i := i) (j := 2) (by omega) hL rfl dL_law_1128 ?_
  refine lv_aload_n C.1 C.2.1 dL_law_1129 rfl (lv_at hl 3 rfl) ?_
  refine lv_iload_n C.1 C.2.1 dL_law_1130 rfl (lv_at hl 0 rfl) ?_
  refine lv_iconst (v := (3:Int32)) C.1 C.2.1 dL_law_1131 (by decide) ?_
  refine lv_iadd C.1 C.2.1 dL_law_1132 ?_
  refine lw_ld C hcs.1 hX hbl G (i := i) (j := 3) (by omega) hL rfl dL_law_1133 ?_
  refine lv_aload_n C.1 C.2.1 dL_law_1134 rfl (lv_at hl 3 rfl) ?_
  refine lv_iload_n C.1 C.2.1 dL_law_1135 rfl (lv_at hl 0 rfl) ?_
  refine lv_iconst (v := (4:Int32)) C.1 C.2.1 dL_law_1136 (by decide) ?_
  refine lv_iadd C.1 C.2.1 dL_law_1137 ?_
  refine lw_ld C hcs.1 hX hbl G (i := i) (j := 4) (by omega) hL rfl dL_law_1138 ?_
  refine lw_callR (rest := [.int r]) C hK hcs G lw_q30 [.int (xs (i + 1)), .int (xs (i + 2)), .int (xs (i + 3)), .int (xs (i + 4))] _ (kq_same l Dr h0 hq) rf_blind (lw_BR G hK) (Nat.le_of_ble_eq_true rfl) (Nat.le_of_ble_eq_true rfl) rfl rfl hl.1 (Nat.le_of_ble_eq_true rfl) dL_law_1139 (fun H locs G => ?_)
  refine W.eq (g2 := F0 m 1142 ls [.int r, .int r]) rfl ?_
  refine lv_icmp_eq (tgt := 1226) C.1 C.2.1 dL_law_1142 (by decide) (fun _ => kk _ _ _ _ G) (fun hc => absurd rfl hc)
set_option maxHeartbeats 4000000 in
theorem lw_case31 {i : Nat} {r : Int32} {σ' : cl_S} {ρ' : rf_S} (C : cl_C D p s m args meth c code 4 ret R_law) (hK : rf_K Dr s) (hZ : rf_Zs (s.heap, q9, qv9) h0 s) (hcs : s.heap.size = c0 ∧ D.2.2.2.1 = s.heap) (hX : va_X b L xs s s.heap) (hbl : b < s.heap.size) (hL : L ≤ 320) (hi : i + 5 ≤ L) (G : lw_H D Dr c0 h0 s σ ρ H locs cells slots) (hl : lv_has ls 4 [(3, .int (nI i)), (2, .ref h0), (1, .ref (c0 + 0)), (0, .ref b)]) (hc : lw_fc 31 (xs (i + 1)) (xs (i + 2)) (xs (i + 3)) (xs (i + 4)) σ = some (r, σ')) (hq : lw_fq 31 (xs (i + 1)) (xs (i + 2)) (xs (i + 3)) (xs (i + 4)) ρ = some (r, ρ')) (kk : ∀ (H : Heap) (locs : List Loc) (cells slots : Nat), lw_H D Dr c0 h0 s σ' ρ' H locs cells slots → W p l e room_1 s m args below meth c H locs cells slots Q (F0 m 1226 ls [])) : W p l e room_1 s m args below meth c H locs cells slots Q (F0 m 1147 ls []) := by
  refine lv_aload_n C.1 C.2.1 dL_law_1147 rfl (lv_at hl 2 rfl) ?_
  refine lv_aload_n C.1 C.2.1 dL_law_1148 rfl (lv_at hl 3 rfl) ?_
  refine lv_iload_n C.1 C.2.1 dL_law_1149 rfl (lv_at hl 0 rfl) ?_
  refine lv_iconst (v := (1:Int32)) C.1 C.2.1 dL_law_1150 (by decide) ?_
  refine lv_iadd C.1 C.2.1 dL_law_1151 ?_
  refine lw_ld C hcs.1 hX hbl G (i := i) (j := 1) (by omega) hL rfl dL_law_1152 ?_
  refine lv_aload_n C.1 C.2.1 dL_law_1153 rfl (lv_at hl 3 rfl) ?_
  refine lv_iload_n C.1 C.2.1 dL_law_1154 rfl (lv_at hl 0 rfl) ?_
  refine lv_iconst (v := (2:Int32)) C.1 C.2.1 dL_law_1155 (by decide) ?_
  refine lv_iadd C.1 C.2.1 dL_law_1156 ?_
  refine lw_ld C hcs.1 hX hbl G (i := i) (j := 2) (by omega) hL rfl dL_law_1157 ?_
  refine lw_callC (rest := []) C G lw_c31 [.int (xs (i + 1)), .int (xs (i + 2))] _ (kc_X11_flows l D c0 (a := 0) G.2.2.2.2.2 hc) (Nat.le_of_ble_eq_true rfl) (Nat.le_of_ble_eq_true rfl) rfl rfl hl.1 (Nat.le_of_ble_eq_true rfl) dL_law_1158 (fun H locs cells slots G => ?_)
  refine W.eq (g2 := F0 m 1161 ls [.int r]) rfl ?_
  refine lv_aload_n C.1 C.2.1 dL_law_1161 rfl (lv_at hl 1 rfl) ?_
  refine lv_aload_n C.1 C.2.1 dL_law_1162 rfl (lv_at hl 3 rfl) ?_
  refine lv_iload_n C.1 C.2.1 dL_law_1163 rfl (lv_at hl 0 rfl) ?_
  refine lv_iconst (v := (1:Int32)) C.1 C.2.1 dL_law_1164 (by decide) ?_
  refine lv_iadd C.1 C.2.1 dL_law_1165 ?_
  refine lw_ld C hcs.1 hX hbl G (i := i) (j := 1) (by omega) hL rfl dL_law_1166 ?_
  refine lv_aload_n C.1 C.2.1 dL_law_1167 rfl (lv_at hl 3 rfl) ?_
  refine lv_iload_n C.1 C.2.1 dL_law_1168 rfl (lv_at hl 0 rfl) ?_
  refine lv_iconst (v := (2:Int32)) C.1 C.2.1 dL_law_1169 (by decide) ?_
  refine lv_iadd C.1 C.2.1 dL_law_1170 ?_
  refine lw_ld C hcs.1 hX hbl G (i := i) (j := 2) (by omega) hL rfl dL_law_1171 ?_
  refine lw_callR (rest := [.int r]) C hK hcs G lw_q31 [.int (xs (i + 1)), .int (xs (i + 2))] _ (kq_flows l Dr h0 hq) rf_blind (lw_BR G hK) (Nat.le_of_ble_eq_true rfl) (Nat.le_of_ble_eq_true rfl) rfl rfl hl.1 (Nat.le_of_ble_eq_true rfl) dL_law_1172 (fun H locs G => ?_)
  refine W.eq (g2 := F0 m 1175 ls [.int r, .int r]) rfl ?_
  refine lv_icmp_eq (tgt := 1226) C.1 C.2.1 dL_law_1175 (by decide) (fun _ => kk _ _ _ _ G) (fun hc => absurd rfl hc)
set_option maxHeartbeats 4000000 in
theorem lw_case32 {i : Nat} {r : Int32} {σ' : cl_S} {ρ' : rf_S} (C : cl_C D p s m args meth c code 4 ret R_law) (hK : rf_K Dr s) (hZ : rf_Zs (s.heap, q9, qv9) h0 s) (hcs : s.heap.size = c0 ∧ D.2.2.2.1 = s.heap) (hX : va_X b L xs s s.heap) (hbl : b < s.heap.size) (hL : L ≤ 320) (hi : i + 5 ≤ L) (G : lw_H D Dr c0 h0 s σ ρ H locs cells slots) (hl : lv_has ls 4 [(3, .int (nI i)), (2, .ref h0), (1, .ref (c0 + 0)), (0, .ref b)]) (hc : lw_fc 32 (xs (i + 1)) (xs (i + 2)) (xs (i + 3)) (xs (i + 4)) σ = some (r, σ')) (hq : lw_fq 32 (xs (i + 1)) (xs (i + 2)) (xs (i + 3)) (xs (i + 4)) ρ = some (r, ρ')) (kk : ∀ (H : Heap) (locs : List Loc) (cells slots : Nat), lw_H D Dr c0 h0 s σ' ρ' H locs cells slots → W p l e room_1 s m args below meth c H locs cells slots Q (F0 m 1226 ls [])) : W p l e room_1 s m args below meth c H locs cells slots Q (F0 m 1180 ls []) := by
  refine lv_aload_n C.1 C.2.1 dL_law_1180 rfl (lv_at hl 2 rfl) ?_
  refine lv_aload_n C.1 C.2.1 dL_law_1181 rfl (lv_at hl 3 rfl) ?_
  refine lv_iload_n C.1 C.2.1 dL_law_1182 rfl (lv_at hl 0 rfl) ?_
  refine lv_iconst (v := (1:Int32)) C.1 C.2.1 dL_law_1183 (by decide) ?_
  refine lv_iadd C.1 C.2.1 dL_law_1184 ?_
  refine lw_ld C hcs.1 hX hbl G (i := i) (j := 1) (by omega) hL rfl dL_law_1185 ?_
  refine lw_callC (rest := []) C G lw_c32 [.int (xs (i + 1))] _ (kc_X11_purge l D c0 (a := 0) G.2.2.2.2.2 hc) (Nat.le_of_ble_eq_true rfl) (Nat.le_of_ble_eq_true rfl) rfl rfl hl.1 (Nat.le_of_ble_eq_true rfl) dL_law_1186 (fun H locs cells slots G => ?_)
  refine W.eq (g2 := F0 m 1189 ls [.int r]) rfl ?_
  refine lv_aload_n C.1 C.2.1 dL_law_1189 rfl (lv_at hl 1 rfl) ?_
  refine lv_aload_n C.1 C.2.1 dL_law_1190 rfl (lv_at hl 3 rfl) ?_
  refine lv_iload_n C.1 C.2.1 dL_law_1191 rfl (lv_at hl 0 rfl) ?_
  refine lv_iconst (v := (1:Int32)) C.1 C.2.1 dL_law_1192 (by decide) ?_
  refine lv_iadd C.1 C.2.1 dL_law_1193 ?_
  refine lw_ld C hcs.1 hX hbl G (i := i) (j := 1) (by omega) hL rfl dL_law_1194 ?_
  refine lw_callR (rest := [.int r]) C hK hcs G lw_q32 [.int (xs (i + 1))] _ (kq_purge l Dr h0 hq) rf_blind (lw_BR G hK) (Nat.le_of_ble_eq_true rfl) (Nat.le_of_ble_eq_true rfl) rfl rfl hl.1 (Nat.le_of_ble_eq_true rfl) dL_law_1195 (fun H locs G => ?_)
  refine W.eq (g2 := F0 m 1198 ls [.int r, .int r]) rfl ?_
  refine lv_icmp_eq (tgt := 1226) C.1 C.2.1 dL_law_1198 (by decide) (fun _ => kk _ _ _ _ G) (fun hc => absurd rfl hc)
set_option maxHeartbeats 4000000 in
theorem lw_case33 {i : Nat} {r : Int32} {σ' : cl_S} {ρ' : rf_S} (C : cl_C D p s m args meth c code 4 ret R_law) (hK : rf_K Dr s) (hZ : rf_Zs (s.heap, q9, qv9) h0 s) (hcs : s.heap.size = c0 ∧ D.2.2.2.1 = s.heap) (hX : va_X b L xs s s.heap) (hbl : b < s.heap.size) (hL : L ≤ 320) (hi : i + 5 ≤ L) (G : lw_H D Dr c0 h0 s σ ρ H locs cells slots) (hl : lv_has ls 4 [(3, .int (nI i)), (2, .ref h0), (1, .ref (c0 + 0)), (0, .ref b)]) (hc : lw_fc 33 (xs (i + 1)) (xs (i + 2)) (xs (i + 3)) (xs (i + 4)) σ = some (r, σ')) (hq : lw_fq 33 (xs (i + 1)) (xs (i + 2)) (xs (i + 3)) (xs (i + 4)) ρ = some (r, ρ')) (kk : ∀ (H : Heap) (locs : List Loc) (cells slots : Nat), lw_H D Dr c0 h0 s σ' ρ' H locs cells slots → W p l e room_1 s m args below meth c H locs cells slots Q (F0 m 1226 ls [])) : W p l e room_1 s m args below meth c H locs cells slots Q (F0 m 1203 ls []) := by
  refine lv_aload_n C.1 C.2.1 dL_law_1203 rfl (lv_at hl 2 rfl) ?_
  refine lv_aload_n C.1 C.2.1 dL_law_1204 rfl (lv_at hl 3 rfl) ?_
  refine lv_iload_n C.1 C.2.1 dL_law_1205 rfl (lv_at hl 0 rfl) ?_
  refine lv_iconst (v := (1:Int32)) C.1 C.2.1 dL_law_1206 (by decide) ?_
  refine lv_iadd C.1 C.2.1 dL_law_1207 ?_
  refine lw_ld C hcs.1 hX hbl G (i := i) (j := 1) (by omega) hL rfl dL_law_1208 ?_
  refine lw_callC (rest := []) C G lw_c33 [.int (xs (i + 1))] _ (kc_X11_told l D c0 (a := 0) G.2.2.2.2.2 hc) (Nat.le_of_ble_eq_true rfl) (Nat.le_of_ble_eq_true rfl) rfl rfl hl.1 (Nat.le_of_ble_eq_true rfl) dL_law_1209 (fun H locs cells slots G => ?_)
  refine W.eq (g2 := F0 m 1212 ls [.int r]) rfl ?_
  refine lv_aload_n C.1 C.2.1 dL_law_1212 rfl (lv_at hl 1 rfl) ?_
  refine lv_aload_n C.1 C.2.1 dL_law_1213 rfl (lv_at hl 3 rfl) ?_
  refine lv_iload_n C.1 C.2.1 dL_law_1214 rfl (lv_at hl 0 rfl) ?_
  refine lv_iconst (v := (1:Int32)) C.1 C.2.1 dL_law_1215 (by decide) ?_
  refine lv_iadd C.1 C.2.1 dL_law_1216 ?_
  refine lw_ld C hcs.1 hX hbl G (i := i) (j := 1) (by omega) hL rfl dL_law_1217 ?_
  refine lw_callR (rest := [.int r]) C hK hcs G lw_q33 [.int (xs (i + 1))] _ (kq_told l Dr h0 hq) rf_blind (lw_BR G hK) (Nat.le_of_ble_eq_true rfl) (Nat.le_of_ble_eq_true rfl) rfl rfl hl.1 (Nat.le_of_ble_eq_true rfl) dL_law_1218 (fun H locs G => ?_)
  refine W.eq (g2 := F0 m 1221 ls [.int r, .int r]) rfl ?_
  refine lv_icmp_eq (tgt := 1226) C.1 C.2.1 dL_law_1221 (by decide) (fun _ => kk _ _ _ _ G) (fun hc => absurd rfl hc)
end LAW2
