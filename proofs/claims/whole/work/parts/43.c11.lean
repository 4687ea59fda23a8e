section CQ10
variable {p : Program} {l : Launch} {e : Env} {s : State} {m : MethodId} {args : Array Value} {below : List Frame} {meth : Method} {c : Code} {D : cl_D} {c0 : Nat}
abbrev cX5_answer : ByteArray := prog_7_method_11_code
def yX5_answer : MethodName := ⟨RX5, "answer", "(LPartHouse$Partition;I)I"⟩
theorem dX5_answer_0 : decode cX5_answer 0 = .ok (.aload_n 1, 1) := by decide +kernel
theorem dX5_answer_1 : decode cX5_answer 1 = .ok (.getfield 121, 3) := by decide +kernel
theorem dX5_answer_4 : decode cX5_answer 4 = .ok (.getfield 193, 3) := by decide +kernel
theorem dX5_answer_7 : decode cX5_answer 7 = .ok (.iconst 1, 1) := by decide +kernel
theorem dX5_answer_8 : decode cX5_answer 8 = .ok (.iaload, 1) := by decide +kernel
theorem dX5_answer_9 : decode cX5_answer 9 = .ok (.istore_n 3, 1) := by decide +kernel
theorem dX5_answer_10 : decode cX5_answer 10 = .ok (.aload_n 1, 1) := by decide +kernel
theorem dX5_answer_11 : decode cX5_answer 11 = .ok (.getfield 199, 3) := by decide +kernel
theorem dX5_answer_14 : decode cX5_answer 14 = .ok (.iload_n 3, 1) := by decide +kernel
theorem dX5_answer_15 : decode cX5_answer 15 = .ok (.invokevirtual 203, 3) := by decide +kernel
theorem dX5_answer_18 : decode cX5_answer 18 = .ok (.astore 4, 2) := by decide +kernel
theorem dX5_answer_20 : decode cX5_answer 20 = .ok (.iload_n 2, 1) := by decide +kernel
theorem dX5_answer_21 : decode cX5_answer 21 = .ok (.tableswitch 473 0 33 #[151, 156, 165, 173, 181, 186, 191, 204, 211, 218, 225, 232, 240, 245, 276, 283, 290, 297, 305, 313, 321, 329, 334, 357, 365, 379, 393, 408, 416, 424, 436, 444, 459, 466], 151) := by decide +kernel
theorem dX5_answer_172 : decode cX5_answer 172 = .ok (.aload_n 0, 1) := by decide +kernel
theorem dX5_answer_173 : decode cX5_answer 173 = .ok (.invokevirtual 209, 3) := by decide +kernel
theorem dX5_answer_176 : decode cX5_answer 176 = .ok (.ireturn, 1) := by decide +kernel
theorem dX5_answer_177 : decode cX5_answer 177 = .ok (.aload_n 1, 1) := by decide +kernel
theorem dX5_answer_178 : decode cX5_answer 178 = .ok (.getfield 121, 3) := by decide +kernel
theorem dX5_answer_181 : decode cX5_answer 181 = .ok (.iload_n 3, 1) := by decide +kernel
theorem dX5_answer_182 : decode cX5_answer 182 = .ok (.invokevirtual 212, 3) := by decide +kernel
theorem dX5_answer_185 : decode cX5_answer 185 = .ok (.ireturn, 1) := by decide +kernel
theorem dX5_answer_186 : decode cX5_answer 186 = .ok (.aload_n 1, 1) := by decide +kernel
theorem dX5_answer_187 : decode cX5_answer 187 = .ok (.getfield 121, 3) := by decide +kernel
theorem dX5_answer_190 : decode cX5_answer 190 = .ok (.getfield 215, 3) := by decide +kernel
theorem dX5_answer_193 : decode cX5_answer 193 = .ok (.ireturn, 1) := by decide +kernel
theorem dX5_answer_194 : decode cX5_answer 194 = .ok (.aload_n 1, 1) := by decide +kernel
theorem dX5_answer_195 : decode cX5_answer 195 = .ok (.getfield 121, 3) := by decide +kernel
theorem dX5_answer_198 : decode cX5_answer 198 = .ok (.getfield 218, 3) := by decide +kernel
theorem dX5_answer_201 : decode cX5_answer 201 = .ok (.ireturn, 1) := by decide +kernel
theorem dX5_answer_202 : decode cX5_answer 202 = .ok (.aload_n 0, 1) := by decide +kernel
theorem dX5_answer_203 : decode cX5_answer 203 = .ok (.getfield 89, 3) := by decide +kernel
theorem dX5_answer_206 : decode cX5_answer 206 = .ok (.ireturn, 1) := by decide +kernel
theorem dX5_answer_207 : decode cX5_answer 207 = .ok (.aload_n 1, 1) := by decide +kernel
theorem dX5_answer_208 : decode cX5_answer 208 = .ok (.invokevirtual 221, 3) := by decide +kernel
theorem dX5_answer_211 : decode cX5_answer 211 = .ok (.ireturn, 1) := by decide +kernel
theorem dX5_answer_212 : decode cX5_answer 212 = .ok (.aload_n 1, 1) := by decide +kernel
theorem dX5_answer_213 : decode cX5_answer 213 = .ok (.iload_n 3, 1) := by decide +kernel
theorem dX5_answer_214 : decode cX5_answer 214 = .ok (.aload_n 0, 1) := by decide +kernel
theorem dX5_answer_215 : decode cX5_answer 215 = .ok (.getfield 51, 3) := by decide +kernel
theorem dX5_answer_218 : decode cX5_answer 218 = .ok (.getfield 83, 3) := by decide +kernel
theorem dX5_answer_221 : decode cX5_answer 221 = .ok (.invokevirtual 224, 3) := by decide +kernel
theorem dX5_answer_224 : decode cX5_answer 224 = .ok (.ireturn, 1) := by decide +kernel
theorem dX5_answer_225 : decode cX5_answer 225 = .ok (.aload_n 0, 1) := by decide +kernel
theorem dX5_answer_226 : decode cX5_answer 226 = .ok (.aload_n 1, 1) := by decide +kernel
theorem dX5_answer_227 : decode cX5_answer 227 = .ok (.iload_n 3, 1) := by decide +kernel
theorem dX5_answer_228 : decode cX5_answer 228 = .ok (.invokevirtual 228, 3) := by decide +kernel
theorem dX5_answer_231 : decode cX5_answer 231 = .ok (.ireturn, 1) := by decide +kernel
theorem dX5_answer_232 : decode cX5_answer 232 = .ok (.aload_n 0, 1) := by decide +kernel
theorem dX5_answer_233 : decode cX5_answer 233 = .ok (.aload_n 1, 1) := by decide +kernel
theorem dX5_answer_234 : decode cX5_answer 234 = .ok (.iload_n 3, 1) := by decide +kernel
theorem dX5_answer_235 : decode cX5_answer 235 = .ok (.invokevirtual 231, 3) := by decide +kernel
theorem dX5_answer_238 : decode cX5_answer 238 = .ok (.ireturn, 1) := by decide +kernel
theorem dX5_answer_239 : decode cX5_answer 239 = .ok (.aload_n 0, 1) := by decide +kernel
theorem dX5_answer_240 : decode cX5_answer 240 = .ok (.aload_n 1, 1) := by decide +kernel
theorem dX5_answer_241 : decode cX5_answer 241 = .ok (.iload_n 3, 1) := by decide +kernel
theorem dX5_answer_242 : decode cX5_answer 242 = .ok (.invokevirtual 234, 3) := by decide +kernel
theorem dX5_answer_245 : decode cX5_answer 245 = .ok (.ireturn, 1) := by decide +kernel
theorem dX5_answer_246 : decode cX5_answer 246 = .ok (.aload_n 0, 1) := by decide +kernel
theorem dX5_answer_247 : decode cX5_answer 247 = .ok (.aload_n 1, 1) := by decide +kernel
theorem dX5_answer_248 : decode cX5_answer 248 = .ok (.iload_n 3, 1) := by decide +kernel
theorem dX5_answer_249 : decode cX5_answer 249 = .ok (.invokevirtual 237, 3) := by decide +kernel
theorem dX5_answer_252 : decode cX5_answer 252 = .ok (.ireturn, 1) := by decide +kernel
theorem dX5_answer_253 : decode cX5_answer 253 = .ok (.aload_n 0, 1) := by decide +kernel
theorem dX5_answer_254 : decode cX5_answer 254 = .ok (.aload_n 1, 1) := by decide +kernel
theorem dX5_answer_255 : decode cX5_answer 255 = .ok (.aload 4, 2) := by decide +kernel
theorem dX5_answer_257 : decode cX5_answer 257 = .ok (.invokevirtual 240, 3) := by decide +kernel
theorem dX5_answer_260 : decode cX5_answer 260 = .ok (.ireturn, 1) := by decide +kernel
theorem dX5_answer_261 : decode cX5_answer 261 = .ok (.aload_n 1, 1) := by decide +kernel
theorem dX5_answer_262 : decode cX5_answer 262 = .ok (.invokevirtual 244, 3) := by decide +kernel
theorem dX5_answer_265 : decode cX5_answer 265 = .ok (.ireturn, 1) := by decide +kernel
theorem dX5_answer_266 : decode cX5_answer 266 = .ok (.aload_n 1, 1) := by decide +kernel
theorem dX5_answer_267 : decode cX5_answer 267 = .ok (.getfield 199, 3) := by decide +kernel
theorem dX5_answer_270 : decode cX5_answer 270 = .ok (.iconst 0, 1) := by decide +kernel
theorem dX5_answer_271 : decode cX5_answer 271 = .ok (.iload_n 3, 1) := by decide +kernel
theorem dX5_answer_272 : decode cX5_answer 272 = .ok (.aload_n 0, 1) := by decide +kernel
theorem dX5_answer_273 : decode cX5_answer 273 = .ok (.getfield 51, 3) := by decide +kernel
theorem dX5_answer_276 : decode cX5_answer 276 = .ok (.getfield 83, 3) := by decide +kernel
theorem dX5_answer_279 : decode cX5_answer 279 = .ok (.aload_n 0, 1) := by decide +kernel
theorem dX5_answer_280 : decode cX5_answer 280 = .ok (.getfield 51, 3) := by decide +kernel
theorem dX5_answer_283 : decode cX5_answer 283 = .ok (.getfield 83, 3) := by decide +kernel
theorem dX5_answer_286 : decode cX5_answer 286 = .ok (.aload_n 0, 1) := by decide +kernel
theorem dX5_answer_287 : decode cX5_answer 287 = .ok (.getfield 51, 3) := by decide +kernel
theorem dX5_answer_290 : decode cX5_answer 290 = .ok (.getfield 83, 3) := by decide +kernel
theorem dX5_answer_293 : decode cX5_answer 293 = .ok (.invokevirtual 247, 3) := by decide +kernel
theorem dX5_answer_296 : decode cX5_answer 296 = .ok (.ireturn, 1) := by decide +kernel
theorem dX5_answer_297 : decode cX5_answer 297 = .ok (.aload_n 0, 1) := by decide +kernel
theorem dX5_answer_298 : decode cX5_answer 298 = .ok (.aload_n 1, 1) := by decide +kernel
theorem dX5_answer_299 : decode cX5_answer 299 = .ok (.iconst 3, 1) := by decide +kernel
theorem dX5_answer_300 : decode cX5_answer 300 = .ok (.invokevirtual 251, 3) := by decide +kernel
theorem dX5_answer_303 : decode cX5_answer 303 = .ok (.ireturn, 1) := by decide +kernel
theorem dX5_answer_304 : decode cX5_answer 304 = .ok (.aload_n 0, 1) := by decide +kernel
theorem dX5_answer_305 : decode cX5_answer 305 = .ok (.aload_n 1, 1) := by decide +kernel
theorem dX5_answer_306 : decode cX5_answer 306 = .ok (.iconst 4, 1) := by decide +kernel
theorem dX5_answer_307 : decode cX5_answer 307 = .ok (.invokevirtual 251, 3) := by decide +kernel
theorem dX5_answer_310 : decode cX5_answer 310 = .ok (.ireturn, 1) := by decide +kernel
theorem dX5_answer_311 : decode cX5_answer 311 = .ok (.aload_n 0, 1) := by decide +kernel
theorem dX5_answer_312 : decode cX5_answer 312 = .ok (.aload_n 1, 1) := by decide +kernel
theorem dX5_answer_313 : decode cX5_answer 313 = .ok (.iconst 5, 1) := by decide +kernel
theorem dX5_answer_314 : decode cX5_answer 314 = .ok (.invokevirtual 251, 3) := by decide +kernel
theorem dX5_answer_317 : decode cX5_answer 317 = .ok (.ireturn, 1) := by decide +kernel
theorem dX5_answer_318 : decode cX5_answer 318 = .ok (.aload_n 0, 1) := by decide +kernel
theorem dX5_answer_319 : decode cX5_answer 319 = .ok (.aload_n 1, 1) := by decide +kernel
theorem dX5_answer_320 : decode cX5_answer 320 = .ok (.bipush 6, 2) := by decide +kernel
theorem dX5_answer_322 : decode cX5_answer 322 = .ok (.invokevirtual 251, 3) := by decide +kernel
theorem dX5_answer_325 : decode cX5_answer 325 = .ok (.ireturn, 1) := by decide +kernel
theorem dX5_answer_326 : decode cX5_answer 326 = .ok (.aload_n 0, 1) := by decide +kernel
theorem dX5_answer_327 : decode cX5_answer 327 = .ok (.aload_n 1, 1) := by decide +kernel
theorem dX5_answer_328 : decode cX5_answer 328 = .ok (.bipush 7, 2) := by decide +kernel
theorem dX5_answer_330 : decode cX5_answer 330 = .ok (.invokevirtual 251, 3) := by decide +kernel
theorem dX5_answer_333 : decode cX5_answer 333 = .ok (.ireturn, 1) := by decide +kernel
theorem dX5_answer_334 : decode cX5_answer 334 = .ok (.aload_n 0, 1) := by decide +kernel
theorem dX5_answer_335 : decode cX5_answer 335 = .ok (.aload_n 1, 1) := by decide +kernel
theorem dX5_answer_336 : decode cX5_answer 336 = .ok (.bipush 8, 2) := by decide +kernel
theorem dX5_answer_338 : decode cX5_answer 338 = .ok (.invokevirtual 251, 3) := by decide +kernel
theorem dX5_answer_341 : decode cX5_answer 341 = .ok (.ireturn, 1) := by decide +kernel
theorem dX5_answer_342 : decode cX5_answer 342 = .ok (.aload_n 0, 1) := by decide +kernel
theorem dX5_answer_343 : decode cX5_answer 343 = .ok (.aload_n 1, 1) := by decide +kernel
theorem dX5_answer_344 : decode cX5_answer 344 = .ok (.bipush 9, 2) := by decide +kernel
theorem dX5_answer_346 : decode cX5_answer 346 = .ok (.invokevirtual 251, 3) := by decide +kernel
theorem dX5_answer_349 : decode cX5_answer 349 = .ok (.ireturn, 1) := by decide +kernel
theorem dX5_answer_350 : decode cX5_answer 350 = .ok (.aload_n 1, 1) := by decide +kernel
theorem dX5_answer_351 : decode cX5_answer 351 = .ok (.invokevirtual 254, 3) := by decide +kernel
theorem dX5_answer_354 : decode cX5_answer 354 = .ok (.ireturn, 1) := by decide +kernel
theorem dX5_answer_355 : decode cX5_answer 355 = .ok (.aload 4, 2) := by decide +kernel
theorem dX5_answer_357 : decode cX5_answer 357 = .ok (.aload_n 0, 1) := by decide +kernel
theorem dX5_answer_358 : decode cX5_answer 358 = .ok (.getfield 51, 3) := by decide +kernel
theorem dX5_answer_361 : decode cX5_answer 361 = .ok (.getfield 83, 3) := by decide +kernel
theorem dX5_answer_364 : decode cX5_answer 364 = .ok (.if_acmp .ne 8, 3) := by decide +kernel
theorem dX5_answer_367 : decode cX5_answer 367 = .ok (.bipush (-2), 2) := by decide +kernel
theorem dX5_answer_369 : decode cX5_answer 369 = .ok (.goto 8, 3) := by decide +kernel
theorem dX5_answer_372 : decode cX5_answer 372 = .ok (.aload 4, 2) := by decide +kernel
theorem dX5_answer_374 : decode cX5_answer 374 = .ok (.getfield 257, 3) := by decide +kernel
theorem dX5_answer_377 : decode cX5_answer 377 = .ok (.ireturn, 1) := by decide +kernel
theorem dX5_answer_378 : decode cX5_answer 378 = .ok (.aload_n 0, 1) := by decide +kernel
theorem dX5_answer_379 : decode cX5_answer 379 = .ok (.aload_n 1, 1) := by decide +kernel
theorem dX5_answer_380 : decode cX5_answer 380 = .ok (.aload 4, 2) := by decide +kernel
theorem dX5_answer_382 : decode cX5_answer 382 = .ok (.invokevirtual 260, 3) := by decide +kernel
theorem dX5_answer_385 : decode cX5_answer 385 = .ok (.ireturn, 1) := by decide +kernel
theorem dX5_answer_386 : decode cX5_answer 386 = .ok (.aload_n 0, 1) := by decide +kernel
theorem dX5_answer_387 : decode cX5_answer 387 = .ok (.aload_n 1, 1) := by decide +kernel
theorem dX5_answer_388 : decode cX5_answer 388 = .ok (.aload 4, 2) := by decide +kernel
theorem dX5_answer_390 : decode cX5_answer 390 = .ok (.iconst 3, 1) := by decide +kernel
theorem dX5_answer_391 : decode cX5_answer 391 = .ok (.aload 4, 2) := by decide +kernel
theorem dX5_answer_393 : decode cX5_answer 393 = .ok (.getfield 263, 3) := by decide +kernel
theorem dX5_answer_396 : decode cX5_answer 396 = .ok (.invokevirtual 266, 3) := by decide +kernel
theorem dX5_answer_399 : decode cX5_answer 399 = .ok (.ireturn, 1) := by decide +kernel
theorem dX5_answer_400 : decode cX5_answer 400 = .ok (.aload_n 0, 1) := by decide +kernel
theorem dX5_answer_401 : decode cX5_answer 401 = .ok (.aload_n 1, 1) := by decide +kernel
theorem dX5_answer_402 : decode cX5_answer 402 = .ok (.aload 4, 2) := by decide +kernel
theorem dX5_answer_404 : decode cX5_answer 404 = .ok (.iconst 3, 1) := by decide +kernel
theorem dX5_answer_405 : decode cX5_answer 405 = .ok (.aload 4, 2) := by decide +kernel
theorem dX5_answer_407 : decode cX5_answer 407 = .ok (.getfield 270, 3) := by decide +kernel
theorem dX5_answer_410 : decode cX5_answer 410 = .ok (.invokevirtual 266, 3) := by decide +kernel
theorem dX5_answer_413 : decode cX5_answer 413 = .ok (.ireturn, 1) := by decide +kernel
theorem dX5_answer_414 : decode cX5_answer 414 = .ok (.aload_n 0, 1) := by decide +kernel
theorem dX5_answer_415 : decode cX5_answer 415 = .ok (.aload_n 1, 1) := by decide +kernel
theorem dX5_answer_416 : decode cX5_answer 416 = .ok (.aload 4, 2) := by decide +kernel
theorem dX5_answer_418 : decode cX5_answer 418 = .ok (.bipush 7, 2) := by decide +kernel
theorem dX5_answer_420 : decode cX5_answer 420 = .ok (.aload 4, 2) := by decide +kernel
theorem dX5_answer_422 : decode cX5_answer 422 = .ok (.getfield 270, 3) := by decide +kernel
theorem dX5_answer_425 : decode cX5_answer 425 = .ok (.invokevirtual 266, 3) := by decide +kernel
theorem dX5_answer_428 : decode cX5_answer 428 = .ok (.ireturn, 1) := by decide +kernel
theorem dX5_answer_429 : decode cX5_answer 429 = .ok (.aload_n 0, 1) := by decide +kernel
theorem dX5_answer_430 : decode cX5_answer 430 = .ok (.aload_n 1, 1) := by decide +kernel
theorem dX5_answer_431 : decode cX5_answer 431 = .ok (.aload 4, 2) := by decide +kernel
theorem dX5_answer_433 : decode cX5_answer 433 = .ok (.invokevirtual 273, 3) := by decide +kernel
theorem dX5_answer_436 : decode cX5_answer 436 = .ok (.ireturn, 1) := by decide +kernel
theorem dX5_answer_437 : decode cX5_answer 437 = .ok (.aload_n 0, 1) := by decide +kernel
theorem dX5_answer_438 : decode cX5_answer 438 = .ok (.aload_n 1, 1) := by decide +kernel
theorem dX5_answer_439 : decode cX5_answer 439 = .ok (.aload 4, 2) := by decide +kernel
theorem dX5_answer_441 : decode cX5_answer 441 = .ok (.invokevirtual 276, 3) := by decide +kernel
theorem dX5_answer_444 : decode cX5_answer 444 = .ok (.ireturn, 1) := by decide +kernel
theorem dX5_answer_445 : decode cX5_answer 445 = .ok (.aload_n 1, 1) := by decide +kernel
theorem dX5_answer_446 : decode cX5_answer 446 = .ok (.getfield 199, 3) := by decide +kernel
theorem dX5_answer_449 : decode cX5_answer 449 = .ok (.aload_n 1, 1) := by decide +kernel
theorem dX5_answer_450 : decode cX5_answer 450 = .ok (.getfield 279, 3) := by decide +kernel
theorem dX5_answer_453 : decode cX5_answer 453 = .ok (.invokevirtual 282, 3) := by decide +kernel
theorem dX5_answer_456 : decode cX5_answer 456 = .ok (.ireturn, 1) := by decide +kernel
theorem dX5_answer_457 : decode cX5_answer 457 = .ok (.aload_n 0, 1) := by decide +kernel
theorem dX5_answer_458 : decode cX5_answer 458 = .ok (.aload_n 1, 1) := by decide +kernel
theorem dX5_answer_459 : decode cX5_answer 459 = .ok (.aload 4, 2) := by decide +kernel
theorem dX5_answer_461 : decode cX5_answer 461 = .ok (.invokevirtual 285, 3) := by decide +kernel
theorem dX5_answer_464 : decode cX5_answer 464 = .ok (.ireturn, 1) := by decide +kernel
theorem dX5_answer_465 : decode cX5_answer 465 = .ok (.aload_n 1, 1) := by decide +kernel
theorem dX5_answer_466 : decode cX5_answer 466 = .ok (.getfield 199, 3) := by decide +kernel
theorem dX5_answer_469 : decode cX5_answer 469 = .ok (.aload_n 0, 1) := by decide +kernel
theorem dX5_answer_470 : decode cX5_answer 470 = .ok (.getfield 51, 3) := by decide +kernel
theorem dX5_answer_473 : decode cX5_answer 473 = .ok (.getfield 288, 3) := by decide +kernel
theorem dX5_answer_476 : decode cX5_answer 476 = .ok (.invokevirtual 282, 3) := by decide +kernel
theorem dX5_answer_479 : decode cX5_answer 479 = .ok (.ireturn, 1) := by decide +kernel
theorem dX5_answer_480 : decode cX5_answer 480 = .ok (.aload_n 0, 1) := by decide +kernel
theorem dX5_answer_481 : decode cX5_answer 481 = .ok (.aload_n 1, 1) := by decide +kernel
theorem dX5_answer_482 : decode cX5_answer 482 = .ok (.iload_n 3, 1) := by decide +kernel
theorem dX5_answer_483 : decode cX5_answer 483 = .ok (.invokevirtual 291, 3) := by decide +kernel
theorem dX5_answer_486 : decode cX5_answer 486 = .ok (.ireturn, 1) := by decide +kernel
theorem dX5_answer_487 : decode cX5_answer 487 = .ok (.aload_n 0, 1) := by decide +kernel
theorem dX5_answer_488 : decode cX5_answer 488 = .ok (.aload_n 1, 1) := by decide +kernel
theorem dX5_answer_489 : decode cX5_answer 489 = .ok (.iload_n 3, 1) := by decide +kernel
theorem dX5_answer_490 : decode cX5_answer 490 = .ok (.invokevirtual 294, 3) := by decide +kernel
theorem dX5_answer_493 : decode cX5_answer 493 = .ok (.ireturn, 1) := by decide +kernel
theorem dX5_answer_494 : decode cX5_answer 494 = .ok (.aload_n 0, 1) := by decide +kernel
theorem dX5_answer_495 : decode cX5_answer 495 = .ok (.aload_n 1, 1) := by decide +kernel
theorem dX5_answer_496 : decode cX5_answer 496 = .ok (.iload_n 3, 1) := by decide +kernel
theorem dX5_answer_497 : decode cX5_answer 497 = .ok (.invokevirtual 297, 3) := by decide +kernel
theorem dX5_answer_500 : decode cX5_answer 500 = .ok (.ireturn, 1) := by decide +kernel
theorem cc_X5_answer : Cond.code yX5_answer cX5_answer 5 (some .int) ∈ rf_tb := rf_at 1158 (by decide +kernel) (by decide +kernel)
theorem cw_RX5_209 : cl_wV RX5 RX5 yX5_yieldTurn cX5_yieldTurn 1 (some .int) 209 0 := ⟨⟨rf_at 1167 (by decide +kernel) (by decide +kernel), rf_at 1169 (by decide +kernel) (by decide +kernel), rf_sel (q := (yX5_yieldTurn, 20)) 42 (by decide +kernel) (by decide +kernel), cc_X5_yieldTurn, rf_at 13 (by decide +kernel) (by decide +kernel)⟩, ⟨by decide, by decide, by decide +kernel⟩⟩
theorem cw_RX5_212 : cl_wV RX5 RX2 yX2_setHandler cX2_setHandler 2 (some .int) 212 1 := ⟨⟨rf_at 1171 (by decide +kernel) (by decide +kernel), rf_at 1172 (by decide +kernel) (by decide +kernel), rf_at 1173 (by decide +kernel) (by decide +kernel), cc_X2_setHandler, rf_at 16 (by decide +kernel) (by decide +kernel)⟩, ⟨by decide, by decide, by decide +kernel⟩⟩
theorem cw_RX5_221 : cl_wV RX5 RX6 yX6_askWord cX6_askWord 3 (some .int) 221 0 := ⟨⟨rf_at 1175 (by decide +kernel) (by decide +kernel), rf_at 1176 (by decide +kernel) (by decide +kernel), rf_at 1177 (by decide +kernel) (by decide +kernel), cc_X6_askWord, rf_at 15 (by decide +kernel) (by decide +kernel)⟩, ⟨by decide, by decide, by decide +kernel⟩⟩
theorem cw_RX5_228 : cl_wV RX5 RX5 yX5_send cX5_send 4 (some .int) 228 2 := ⟨⟨rf_at 1183 (by decide +kernel) (by decide +kernel), rf_at 1185 (by decide +kernel) (by decide +kernel), rf_sel (q := (yX5_send, 20)) 43 (by decide +kernel) (by decide +kernel), cc_X5_send, rf_at 13 (by decide +kernel) (by decide +kernel)⟩, ⟨by decide, by decide, by decide +kernel⟩⟩
theorem cw_RX5_231 : cl_wV RX5 RX5 yX5_receive cX5_receive 5 (some .int) 231 2 := ⟨⟨rf_at 1196 (by decide +kernel) (by decide +kernel), rf_at 1198 (by decide +kernel) (by decide +kernel), rf_sel (q := (yX5_receive, 20)) 45 (by decide +kernel) (by decide +kernel), cc_X5_receive, rf_at 13 (by decide +kernel) (by decide +kernel)⟩, ⟨by decide, by decide, by decide +kernel⟩⟩
theorem cw_RX5_234 : cl_wV RX5 RX5 yX5_sendTerm cX5_sendTerm 4 (some .int) 234 2 := ⟨⟨rf_at 1204 (by decide +kernel) (by decide +kernel), rf_at 1206 (by decide +kernel) (by decide +kernel), rf_sel (q := (yX5_sendTerm, 20)) 47 (by decide +kernel) (by decide +kernel), cc_X5_sendTerm, rf_at 13 (by decide +kernel) (by decide +kernel)⟩, ⟨by decide, by decide, by decide +kernel⟩⟩
theorem cw_RX5_237 : cl_wV RX5 RX5 yX5_receiveTerm cX5_receiveTerm 3 (some .int) 237 2 := ⟨⟨rf_at 1209 (by decide +kernel) (by decide +kernel), rf_at 1211 (by decide +kernel) (by decide +kernel), rf_sel (q := (yX5_receiveTerm, 20)) 48 (by decide +kernel) (by decide +kernel), cc_X5_receiveTerm, rf_at 13 (by decide +kernel) (by decide +kernel)⟩, ⟨by decide, by decide, by decide +kernel⟩⟩
theorem cw_RX5_240 : cl_wV RX5 RX5 yX5_outTerm cX5_outTerm 4 (some .int) 240 2 := ⟨⟨rf_at 1226 (by decide +kernel) (by decide +kernel), rf_at 1228 (by decide +kernel) (by decide +kernel), rf_sel (q := (yX5_outTerm, 20)) 50 (by decide +kernel) (by decide +kernel), cc_X5_outTerm, rf_at 13 (by decide +kernel) (by decide +kernel)⟩, ⟨by decide, by decide, by decide +kernel⟩⟩
theorem cw_RX5_244 : cl_wV RX5 RX6 yX6_askTerm cX6_askTerm 3 (some .int) 244 0 := ⟨⟨rf_at 1231 (by decide +kernel) (by decide +kernel), rf_at 1232 (by decide +kernel) (by decide +kernel), rf_at 1233 (by decide +kernel) (by decide +kernel), cc_X6_askTerm, rf_at 15 (by decide +kernel) (by decide +kernel)⟩, ⟨by decide, by decide, by decide +kernel⟩⟩
theorem cw_RX5_251 : cl_wV RX5 RX5 yX5_makeOf cX5_makeOf 7 (some .int) 251 2 := ⟨⟨rf_at 1243 (by decide +kernel) (by decide +kernel), rf_at 1245 (by decide +kernel) (by decide +kernel), rf_sel (q := (yX5_makeOf, 20)) 51 (by decide +kernel) (by decide +kernel), cc_X5_makeOf, rf_at 13 (by decide +kernel) (by decide +kernel)⟩, ⟨by decide, by decide, by decide +kernel⟩⟩
theorem cw_RX5_254 : cl_wV RX5 RX6 yX6_askSecret cX6_askSecret 1 (some .int) 254 0 := ⟨⟨rf_at 1250 (by decide +kernel) (by decide +kernel), rf_at 1251 (by decide +kernel) (by decide +kernel), rf_at 1252 (by decide +kernel) (by decide +kernel), cc_X6_askSecret, rf_at 15 (by decide +kernel) (by decide +kernel)⟩, ⟨by decide, by decide, by decide +kernel⟩⟩
theorem cw_RX5_260 : cl_wV RX5 RX5 yX5_lookAtNumber cX5_lookAtNumber 4 (some .int) 260 2 := ⟨⟨rf_at 1256 (by decide +kernel) (by decide +kernel), rf_at 1258 (by decide +kernel) (by decide +kernel), rf_sel (q := (yX5_lookAtNumber, 20)) 52 (by decide +kernel) (by decide +kernel), cc_X5_lookAtNumber, rf_at 13 (by decide +kernel) (by decide +kernel)⟩, ⟨by decide, by decide, by decide +kernel⟩⟩
theorem cw_RX5_273 : cl_wV RX5 RX5 yX5_checkSigned cX5_checkSigned 4 (some .int) 273 2 := ⟨⟨rf_at 1264 (by decide +kernel) (by decide +kernel), rf_at 1266 (by decide +kernel) (by decide +kernel), rf_sel (q := (yX5_checkSigned, 20)) 54 (by decide +kernel) (by decide +kernel), cc_X5_checkSigned, rf_at 13 (by decide +kernel) (by decide +kernel)⟩, ⟨by decide, by decide, by decide +kernel⟩⟩
theorem cw_RX5_276 : cl_wV RX5 RX5 yX5_openClosed cX5_openClosed 4 (some .int) 276 2 := ⟨⟨rf_at 1268 (by decide +kernel) (by decide +kernel), rf_at 1270 (by decide +kernel) (by decide +kernel), rf_sel (q := (yX5_openClosed, 20)) 55 (by decide +kernel) (by decide +kernel), cc_X5_openClosed, rf_at 13 (by decide +kernel) (by decide +kernel)⟩, ⟨by decide, by decide, by decide +kernel⟩⟩
theorem cw_RX5_285 : cl_wV RX5 RX5 yX5_quote cX5_quote 4 (some .int) 285 2 := ⟨⟨rf_at 1272 (by decide +kernel) (by decide +kernel), rf_at 1274 (by decide +kernel) (by decide +kernel), rf_sel (q := (yX5_quote, 20)) 56 (by decide +kernel) (by decide +kernel), cc_X5_quote, rf_at 13 (by decide +kernel) (by decide +kernel)⟩, ⟨by decide, by decide, by decide +kernel⟩⟩
theorem cw_RX5_291 : cl_wV RX5 RX5 yX5_seal cX5_seal 9 (some .int) 291 2 := ⟨⟨rf_at 1279 (by decide +kernel) (by decide +kernel), rf_at 1281 (by decide +kernel) (by decide +kernel), rf_sel (q := (yX5_seal, 20)) 57 (by decide +kernel) (by decide +kernel), cc_X5_seal, rf_at 13 (by decide +kernel) (by decide +kernel)⟩, ⟨by decide, by decide, by decide +kernel⟩⟩
theorem cw_RX5_294 : cl_wV RX5 RX5 yX5_unseal cX5_unseal 4 (some .int) 294 2 := ⟨⟨rf_at 1318 (by decide +kernel) (by decide +kernel), rf_at 1320 (by decide +kernel) (by decide +kernel), rf_sel (q := (yX5_unseal, 20)) 63 (by decide +kernel) (by decide +kernel), cc_X5_unseal, rf_at 13 (by decide +kernel) (by decide +kernel)⟩, ⟨by decide, by decide, by decide +kernel⟩⟩
theorem cw_RX5_297 : cl_wV RX5 RX5 yX5_versionThatCounts cX5_versionThatCounts 4 (some .int) 297 2 := ⟨⟨rf_at 1322 (by decide +kernel) (by decide +kernel), rf_at 1324 (by decide +kernel) (by decide +kernel), rf_sel (q := (yX5_versionThatCounts, 20)) 64 (by decide +kernel) (by decide +kernel), cc_X5_versionThatCounts, rf_at 13 (by decide +kernel) (by decide +kernel)⟩, ⟨by decide, by decide, by decide +kernel⟩⟩
noncomputable def bc_X5_answer_0 (a : Nat) (x1 : (Option Nat)) (x2 : Int32) (σ : cl_S) : Option (Int32 × cl_S) := nn x1 (fun a_1 => ix (1:Int32) 16 (vl (σ.1 ((a_1 + 1) + 2) (1:Int32).toNatClampNeg) (fun x3_7 => bd2 (fc_X8_at (a_1 + 9) x3_7 σ) (fun r_12 σ_11 => (if x2 = (0:Int32) then bd2 (fc_X5_yieldTurn a σ_11) (fun r_19 σ_18 => some (r_19, σ_18)) else if x2 = (1:Int32) then bd2 (fc_X2_setHandler (a_1 + 1) x3_7 σ_11) (fun r_26 σ_25 => some (r_26, σ_25)) else if x2 = (2:Int32) then some ((σ_11.1 (a_1 + 1) 5), σ_11) else if x2 = (3:Int32) then some ((σ_11.1 (a_1 + 1) 6), σ_11) else if x2 = (4:Int32) then some ((σ_11.1 a 9), σ_11) else if x2 = (5:Int32) then bd2 (fc_X6_askWord a_1 σ_11) (fun r_34 σ_33 => some (r_34, σ_33)) else if x2 = (6:Int32) then bd2 (fc_X6_putOut a_1 x3_7 (some 33) σ_11) (fun r_42 σ_41 => some (r_42, σ_41)) else if x2 = (7:Int32) then bd2 (fc_X5_send a (some a_1) x3_7 σ_11) (fun r_48 σ_47 => some (r_48, σ_47)) else if x2 = (8:Int32) then bd2 (fc_X5_receive a (some a_1) x3_7 σ_11) (fun r_54 σ_53 => some (r_54, σ_53)) else if x2 = (9:Int32) then bd2 (fc_X5_sendTerm a (some a_1) x3_7 σ_11) (fun r_60 σ_59 => some (r_60, σ_59)) else if x2 = (10:Int32) then bd2 (fc_X5_receiveTerm a (some a_1) x3_7 σ_11) (fun r_66 σ_65 => some (r_66, σ_65)) else if x2 = (11:Int32) then bd2 (fc_X5_outTerm a (some a_1) r_12 σ_11) (fun r_72 σ_71 => some (r_72, σ_71)) else if x2 = (12:Int32) then bd2 (fc_X6_askTerm a_1 σ_11) (fun r_78 σ_77 => some (r_78, σ_77)) else if x2 = (13:Int32) then bd2 (fc_X8_comeInMade (a_1 + 9) (0:Int32) x3_7 (some 33) (some 33) (some 33) σ_11) (fun r_91 σ_90 => some (r_91, σ_90)) else if x2 = (14:Int32) then bd2 (fc_X5_makeOf a (some a_1) (3:Int32) σ_11) (fun r_97 σ_96 => some (r_97, σ_96)) else if x2 = (15:Int32) then bd2 (fc_X5_makeOf a (some a_1) (4:Int32) σ_11) (fun r_103 σ_102 => some (r_103, σ_102)) else if x2 = (16:Int32) then bd2 (fc_X5_makeOf a (some a_1) (5:Int32) σ_11) (fun r_109 σ_108 => some (r_109, σ_108)) else if x2 = (17:Int32) then bd2 (fc_X5_makeOf a (some a_1) (6:Int32) σ_11) (fun r_115 σ_114 => some (r_115, σ_114)) else if x2 = (18:Int32) then bd2 (fc_X5_makeOf a (some a_1) (7:Int32) σ_11) (fun r_121 σ_120 => some (r_121, σ_120)) else if x2 = (19:Int32) then bd2 (fc_X5_makeOf a (some a_1) (8:Int32) σ_11) (fun r_127 σ_126 => some (r_127, σ_126)) else if x2 = (20:Int32) then bd2 (fc_X5_makeOf a (some a_1) (9:Int32) σ_11) (fun r_133 σ_132 => some (r_133, σ_132)) else if x2 = (21:Int32) then bd2 (fc_X6_askSecret a_1 σ_11) (fun r_139 σ_138 => some (r_139, σ_138)) else if x2 = (22:Int32) then (if r_12 = (some 33) then some ((-2:Int32), σ_11) else nn r_12 (fun a_146 => some ((σ_11.1 a_146 0), σ_11))) else if x2 = (23:Int32) then bd2 (fc_X5_lookAtNumber a (some a_1) r_12 σ_11) (fun r_150 σ_149 => some (r_150, σ_149)) else if x2 = (24:Int32) then nn r_12 (fun a_155 => vl (σ_11.2.2.1 a_155 3) (fun r_159 => bd2 (fc_X5_lookInto a (some a_1) (some a_155) (3:Int32) r_159 σ_11) (fun r_163 σ_162 => some (r_163, σ_162)))) else if x2 = (25:Int32) then nn r_12 (fun a_168 => vl (σ_11.2.2.1 a_168 4) (fun r_172 => bd2 (fc_X5_lookInto a (some a_1) (some a_168) (3:Int32) r_172 σ_11) (fun r_176 σ_175 => some (r_176, σ_175)))) else if x2 = (26:Int32) then nn r_12 (fun a_181 => vl (σ_11.2.2.1 a_181 4) (fun r_185 => bd2 (fc_X5_lookInto a (some a_1) (some a_181) (7:Int32) r_185 σ_11) (fun r_189 σ_188 => some (r_189, σ_188)))) else if x2 = (27:Int32) then bd2 (fc_X5_checkSigned a (some a_1) r_12 σ_11) (fun r_195 σ_194 => some (r_195, σ_194)) else if x2 = (28:Int32) then bd2 (fc_X5_openClosed a (some a_1) r_12 σ_11) (fun r_201 σ_200 => some (r_201, σ_200)) else if x2 = (29:Int32) then vl (σ_11.2.2.1 a_1 16) (fun r_208 => bd2 (fc_X8_comeIn (a_1 + 9) r_208 σ_11) (fun r_212 σ_211 => some (r_212, σ_211))) else if x2 = (30:Int32) then bd2 (fc_X5_quote a (some a_1) r_12 σ_11) (fun r_218 σ_217 => some (r_218, σ_217)) else if x2 = (31:Int32) then bd2 (fc_X8_comeIn (a_1 + 9) (some 37) σ_11) (fun r_227 σ_226 => some (r_227, σ_226)) else if x2 = (32:Int32) then bd2 (fc_X5_seal a (some a_1) x3_7 σ_11) (fun r_233 σ_232 => some (r_233, σ_232)) else if x2 = (33:Int32) then bd2 (fc_X5_unseal a (some a_1) x3_7 σ_11) (fun r_239 σ_238 => some (r_239, σ_238)) else bd2 (fc_X5_versionThatCounts a (some a_1) x3_7 σ_11) (fun r_245 σ_244 => some (r_245, σ_244)))))))
set_option maxHeartbeats 4000000 in
theorem wc_X5_answer_0 (C : cl_C D p s m args meth c cX5_answer 5 (some .int) RX5) {r : Int32} {a : Nat} {x1 : (Option Nat)} {x2 : Int32} {σ0 σ σ' : cl_S} {T : Nat → Nat × Nat} {H : Heap} {locs : List Loc} {ls : Array Slot} {cells slots : Nat} (h : bc_X5_answer_0 a x1 x2 σ = some (r, σ')) (G : cl_G true D c0 ({ frames := 6, cells := σ0.2.2.2.2.2.1, slots := σ0.2.2.2.2.2.2, locals := 160 }) s σ0.2.2.2.1 T σ H locs cells slots) (ha : (T a).1 = 21) (f1 : cl_RT T x1 22) (hl : lv_has ls 5 [(0, .ref (c0 + a)), (1, cl_rf c0 x1), (2, .int x2)]) : W p l e ({ frames := 6, cells := σ0.2.2.2.2.2.1, slots := σ0.2.2.2.2.2.2, locals := 160 }) s m args below meth c H locs cells slots (MQ below (cl_Q true D c0 (some (.int r)) cl_no σ0 σ') args s (σ0.2.2.2.2.2.1 - σ'.2.2.2.2.2.1) (σ0.2.2.2.2.2.2 - σ'.2.2.2.2.2.2) (cl_A c0 σ0.2.2.2.1 s.heap.size)) (F0 m 0 ls []) := by
  unfold bc_X5_answer_0 at h
  refine cl_aload_n C.1 C.2.1 dX5_answer_0 rfl (lv_at hl 1 rfl) ?_
  obtain ⟨a_1, rfl, h_3⟩ := nn_some h
  have t_2 := f1 _ rfl
  refine cg_5_121 C G t_2 dX5_answer_1 (fun t_4 => ?_)
  have t_4 : (T (a_1 + 1)).1 = 18 := by rw [t_4]
  refine cg_5_193 C G t_4 dX5_answer_4 (fun t_5 => ?_)
  refine lv_iconst (v := (1:Int32)) C.1 C.2.1 dX5_answer_7 (by decide) ?_
  obtain ⟨hi, h_6⟩ := ix_some h_3
  refine cl_iald C G t_5 hi dX5_answer_8 ?_
  refine vt_i h_6 (fun x3_7 h_8 => ?_)
  refine lv_istore_n (lv' := [(3, .int x3_7), (0, .ref (c0 + a)), (1, .ref (c0 + a_1)), (2, .int x2)]) C.1 C.2.1 dX5_answer_9 rfl hl (by decide) rfl (fun ls hl_9 => ?_)
  refine lv_aload_n C.1 C.2.1 dX5_answer_10 rfl (lv_at hl_9 2 rfl) ?_
  refine cg_5_199 C G t_2 dX5_answer_11 (fun t_10 => ?_)
  have t_10 : (T (a_1 + 9)).1 = 24 := by rw [t_10]
  refine lv_iload_n C.1 C.2.1 dX5_answer_14 rfl (lv_at hl_9 0 rfl) ?_
  obtain ⟨r_12, σ_11, hq, h_13⟩ := bd2_some h_8
  refine cl_callV (ci := 8) (rest := []) C G rfl t_10 cw_RX5_203 [.int x3_7] _ (kc_X8_at l D c0 (by rw [G.1]; exact t_10) hq) (Nat.le_of_ble_eq_true rfl) (Nat.le_of_ble_eq_true rfl) rfl rfl hl_9.1 (Nat.le_of_ble_eq_true rfl) dX5_answer_15 (fun T_14 H locs cells slots t_15 hu G_16 => ?_)
  have ha := hu.kind ha (by decide)
  have t_2 := hu.kind t_2 (by decide)
  refine W.eq (g2 := F0 m 18 ls [cl_rf c0 r_12]) rfl ?_
  refine cl_astore (lv' := [(4, cl_rf c0 r_12), (3, .int x3_7), (0, .ref (c0 + a)), (1, .ref (c0 + a_1)), (2, .int x2)]) C.1 C.2.1 dX5_answer_18 hl_9 (by decide) rfl (fun ls hl_17 => ?_)
  refine lv_iload_n C.1 C.2.1 dX5_answer_20 rfl (lv_at hl_17 4 rfl) ?_
  by_cases hk0 : x2 = (0:Int32)
  · rw [if_pos hk0] at h_13
    refine lv_tableIn (tgt := 172) C.1 C.2.1 dX5_answer_21 (by rw [hk0]; decide) (by rw [hk0]; decide) (by rw [hk0]; rfl) (by decide) ?_
    refine lv_aload_n C.1 C.2.1 dX5_answer_172 rfl (lv_at hl_17 2 rfl) ?_
    obtain ⟨r_19, σ_18, hq, h_20⟩ := bd2_some h_13
    refine cl_callV (ci := 5) (rest := []) C G_16 rfl ha cw_RX5_209 [] _ (kc_X5_yieldTurn l D c0 (by rw [G_16.1]; exact ha) hq) (Nat.le_of_ble_eq_true rfl) (Nat.le_of_ble_eq_true rfl) rfl rfl hl_17.1 (Nat.le_of_ble_eq_true rfl) dX5_answer_173 (fun T_21 H locs cells slots t_22 hu G_23 => ?_)
    have t_15 := t_15.up hu (by decide)
    have ha := hu.kind ha (by decide)
    have t_2 := hu.kind t_2 (by decide)
    refine W.eq (g2 := F0 m 176 ls [.int r_19]) rfl ?_
    exact cl_iret ⟨rfl, rfl⟩ rfl C G_23 h_20 dX5_answer_176
  rw [if_neg hk0] at h_13
  by_cases hk1 : x2 = (1:Int32)
  · rw [if_pos hk1] at h_13
    refine lv_tableIn (tgt := 177) C.1 C.2.1 dX5_answer_21 (by rw [hk1]; decide) (by rw [hk1]; decide) (by rw [hk1]; rfl) (by decide) ?_
    refine lv_aload_n C.1 C.2.1 dX5_answer_177 rfl (lv_at hl_17 3 rfl) ?_
    refine cg_5_121 C G_16 t_2 dX5_answer_178 (fun t_24 => ?_)
    have t_24 : (T_14 (a_1 + 1)).1 = 18 := by rw [t_24]
    refine lv_iload_n C.1 C.2.1 dX5_answer_181 rfl (lv_at hl_17 1 rfl) ?_
    obtain ⟨r_26, σ_25, hq, h_27⟩ := bd2_some h_13
    refine cl_callV (ci := 2) (rest := []) C G_16 rfl t_24 cw_RX5_212 [.int x3_7] _ (kc_X2_setHandler l D c0 (by rw [G_16.1]; exact t_24) hq) (Nat.le_of_ble_eq_true rfl) (Nat.le_of_ble_eq_true rfl) rfl rfl hl_17.1 (Nat.le_of_ble_eq_true rfl) dX5_answer_182 (fun T_28 H locs cells slots t_29 hu G_30 => ?_)
    have t_15 := t_15.up hu (by decide)
    have ha := hu.kind ha (by decide)
    have t_2 := hu.kind t_2 (by decide)
    refine W.eq (g2 := F0 m 185 ls [.int r_26]) rfl ?_
    exact cl_iret ⟨rfl, rfl⟩ rfl C G_30 h_27 dX5_answer_185
  rw [if_neg hk1] at h_13
  by_cases hk2 : x2 = (2:Int32)
  · rw [if_pos hk2] at h_13
    refine lv_tableIn (tgt := 186) C.1 C.2.1 dX5_answer_21 (by rw [hk2]; decide) (by rw [hk2]; decide) (by rw [hk2]; rfl) (by decide) ?_
    refine lv_aload_n C.1 C.2.1 dX5_answer_186 rfl (lv_at hl_17 3 rfl) ?_
    refine cg_5_121 C G_16 t_2 dX5_answer_187 (fun t_31 => ?_)
    have t_31 : (T_14 (a_1 + 1)).1 = 18 := by rw [t_31]
    refine cg_5_215 C G_16 t_31 dX5_answer_190 ?_
    exact cl_iret ⟨rfl, rfl⟩ rfl C G_16 h_13 dX5_answer_193
  rw [if_neg hk2] at h_13
  by_cases hk3 : x2 = (3:Int32)
  · rw [if_pos hk3] at h_13
    refine lv_tableIn (tgt := 194) C.1 C.2.1 dX5_answer_21 (by rw [hk3]; decide) (by rw [hk3]; decide) (by rw [hk3]; rfl) (by decide) ?_
    refine lv_aload_n C.1 C.2.1 dX5_answer_194 rfl (lv_at hl_17 3 rfl) ?_
    refine cg_5_121 C G_16 t_2 dX5_answer_195 (fun t_32 => ?_)
    have t_32 : (T_14 (a_1 + 1)).1 = 18 := by rw [t_32]
    refine cg_5_218 C G_16 t_32 dX5_answer_198 ?_
    exact cl_iret ⟨rfl, rfl⟩ rfl C G_16 h_13 dX5_answer_201
  rw [if_neg hk3] at h_13
  by_cases hk4 : x2 = (4:Int32)
  · rw [if_pos hk4] at h_13
    refine lv_tableIn (tgt := 202) C.1 C.2.1 dX5_answer_21 (by rw [hk4]; decide) (by rw [hk4]; decide) (by rw [hk4]; rfl) (by decide) ?_
    refine lv_aload_n C.1 C.2.1 dX5_answer_202 rfl (lv_at hl_17 2 rfl) ?_
    refine cg_5_89 C G_16 ha dX5_answer_203 ?_
    exact cl_iret ⟨rfl, rfl⟩ rfl C G_16 h_13 dX5_answer_206
  rw [if_neg hk4] at h_13
  by_cases hk5 : x2 = (5:Int32)
  · rw [if_pos hk5] at h_13
    refine lv_tableIn (tgt := 207) C.1 C.2.1 dX5_answer_21 (by rw [hk5]; decide) (by rw [hk5]; decide) (by rw [hk5]; rfl) (by decide) ?_
    refine lv_aload_n C.1 C.2.1 dX5_answer_207 rfl (lv_at hl_17 3 rfl) ?_
    obtain ⟨r_34, σ_33, hq, h_35⟩ := bd2_some h_13
    refine cl_callV (ci := 6) (rest := []) C G_16 rfl t_2 cw_RX5_221 [] _ (kc_X6_askWord l D c0 (by rw [G_16.1]; exact t_2) hq) (Nat.le_of_ble_eq_true rfl) (Nat.le_of_ble_eq_true rfl) rfl rfl hl_17.1 (Nat.le_of_ble_eq_true rfl) dX5_answer_208 (fun T_36 H locs cells slots t_37 hu G_38 => ?_)
    have t_15 := t_15.up hu (by decide)
    have ha := hu.kind ha (by decide)
    have t_2 := hu.kind t_2 (by decide)
    refine W.eq (g2 := F0 m 211 ls [.int r_34]) rfl ?_
    exact cl_iret ⟨rfl, rfl⟩ rfl C G_38 h_35 dX5_answer_211
  rw [if_neg hk5] at h_13
  by_cases hk6 : x2 = (6:Int32)
  · rw [if_pos hk6] at h_13
    refine lv_tableIn (tgt := 212) C.1 C.2.1 dX5_answer_21 (by rw [hk6]; decide) (by rw [hk6]; decide) (by rw [hk6]; rfl) (by decide) ?_
    refine lv_aload_n C.1 C.2.1 dX5_answer_212 rfl (lv_at hl_17 3 rfl) ?_
    refine lv_iload_n C.1 C.2.1 dX5_answer_213 rfl (lv_at hl_17 1 rfl) ?_
    refine lv_aload_n C.1 C.2.1 dX5_answer_214 rfl (lv_at hl_17 2 rfl) ?_
    refine cg_5_51 C G_16 ha dX5_answer_215 (fun t_39 => ?_)
    have t_39 : (T_14 31).1 = 26 := by rw [t_39]
    refine cg_5_83 C G_16 t_39 dX5_answer_218 (fun t_40 => ?_)
    have t_40 : (T_14 33).1 = 25 := by rw [t_40]
    obtain ⟨r_42, σ_41, hq, h_43⟩ := bd2_some h_13
    refine cl_callV (ci := 6) (rest := []) C G_16 rfl t_2 cw_RX5_224 [.int x3_7, .ref (c0 + 33)] _ (kc_X6_putOut l D c0 (by rw [G_16.1]; exact t_2) hq (by rw [G_16.1]; exact (cl_RTs t_40))) (Nat.le_of_ble_eq_true rfl) (Nat.le_of_ble_eq_true rfl) rfl rfl hl_17.1 (Nat.le_of_ble_eq_true rfl) dX5_answer_221 (fun T_44 H locs cells slots t_45 hu G_46 => ?_)
    have t_15 := t_15.up hu (by decide)
    have ha := hu.kind ha (by decide)
    have t_2 := hu.kind t_2 (by decide)
    refine W.eq (g2 := F0 m 224 ls [.int r_42]) rfl ?_
    exact cl_iret ⟨rfl, rfl⟩ rfl C G_46 h_43 dX5_answer_224
  rw [if_neg hk6] at h_13
  by_cases hk7 : x2 = (7:Int32)
  · rw [if_pos hk7] at h_13
    refine lv_tableIn (tgt := 225) C.1 C.2.1 dX5_answer_21 (by rw [hk7]; decide) (by rw [hk7]; decide) (by rw [hk7]; rfl) (by decide) ?_
    refine lv_aload_n C.1 C.2.1 dX5_answer_225 rfl (lv_at hl_17 2 rfl) ?_
    refine lv_aload_n C.1 C.2.1 dX5_answer_226 rfl (lv_at hl_17 3 rfl) ?_
    refine lv_iload_n C.1 C.2.1 dX5_answer_227 rfl (lv_at hl_17 1 rfl) ?_
    obtain ⟨r_48, σ_47, hq, h_49⟩ := bd2_some h_13
    refine cl_callV (ci := 5) (rest := []) C G_16 rfl ha cw_RX5_228 [.ref (c0 + a_1), .int x3_7] _ (kc_X5_send l D c0 (by rw [G_16.1]; exact ha) hq (by rw [G_16.1]; exact (cl_RTs t_2))) (Nat.le_of_ble_eq_true rfl) (Nat.le_of_ble_eq_true rfl) rfl rfl hl_17.1 (Nat.le_of_ble_eq_true rfl) dX5_answer_228 (fun T_50 H locs cells slots t_51 hu G_52 => ?_)
    have t_15 := t_15.up hu (by decide)
    have ha := hu.kind ha (by decide)
    have t_2 := hu.kind t_2 (by decide)
    refine W.eq (g2 := F0 m 231 ls [.int r_48]) rfl ?_
    exact cl_iret ⟨rfl, rfl⟩ rfl C G_52 h_49 dX5_answer_231
  rw [if_neg hk7] at h_13
  by_cases hk8 : x2 = (8:Int32)
  · rw [if_pos hk8] at h_13
    refine lv_tableIn (tgt := 232) C.1 C.2.1 dX5_answer_21 (by rw [hk8]; decide) (by rw [hk8]; decide) (by rw [hk8]; rfl) (by decide) ?_
    refine lv_aload_n C.1 C.2.1 dX5_answer_232 rfl (lv_at hl_17 2 rfl) ?_
    refine lv_aload_n C.1 C.2.1 dX5_answer_233 rfl (lv_at hl_17 3 rfl) ?_
    refine lv_iload_n C.1 C.2.1 dX5_answer_234 rfl (lv_at hl_17 1 rfl) ?_
    obtain ⟨r_54, σ_53, hq, h_55⟩ := bd2_some h_13
    refine cl_callV (ci := 5) (rest := []) C G_16 rfl ha cw_RX5_231 [.ref (c0 + a_1), .int x3_7] _ (kc_X5_receive l D c0 (by rw [G_16.1]; exact ha) hq (by rw [G_16.1]; exact (cl_RTs t_2))) (Nat.le_of_ble_eq_true rfl) (Nat.le_of_ble_eq_true rfl) rfl rfl hl_17.1 (Nat.le_of_ble_eq_true rfl) dX5_answer_235 (fun T_56 H locs cells slots t_57 hu G_58 => ?_)
    have t_15 := t_15.up hu (by decide)
    have ha := hu.kind ha (by decide)
    have t_2 := hu.kind t_2 (by decide)
    refine W.eq (g2 := F0 m 238 ls [.int r_54]) rfl ?_
    exact cl_iret ⟨rfl, rfl⟩ rfl C G_58 h_55 dX5_answer_238
  rw [if_neg hk8] at h_13
  by_cases hk9 : x2 = (9:Int32)
  · rw [if_pos hk9] at h_13
    refine lv_tableIn (tgt := 239) C.1 C.2.1 dX5_answer_21 (by rw [hk9]; decide) (by rw [hk9]; decide) (by rw [hk9]; rfl) (by decide) ?_
    refine lv_aload_n C.1 C.2.1 dX5_answer_239 rfl (lv_at hl_17 2 rfl) ?_
    refine lv_aload_n C.1 C.2.1 dX5_answer_240 rfl (lv_at hl_17 3 rfl) ?_
    refine lv_iload_n C.1 C.2.1 dX5_answer_241 rfl (lv_at hl_17 1 rfl) ?_
    obtain ⟨r_60, σ_59, hq, h_61⟩ := bd2_some h_13
    refine cl_callV (ci := 5) (rest := []) C G_16 rfl ha cw_RX5_234 [.ref (c0 + a_1), .int x3_7] _ (kc_X5_sendTerm l D c0 (by rw [G_16.1]; exact ha) hq (by rw [G_16.1]; exact (cl_RTs t_2))) (Nat.le_of_ble_eq_true rfl) (Nat.le_of_ble_eq_true rfl) rfl rfl hl_17.1 (Nat.le_of_ble_eq_true rfl) dX5_answer_242 (fun T_62 H locs cells slots t_63 hu G_64 => ?_)
    have t_15 := t_15.up hu (by decide)
    have ha := hu.kind ha (by decide)
    have t_2 := hu.kind t_2 (by decide)
    refine W.eq (g2 := F0 m 245 ls [.int r_60]) rfl ?_
    exact cl_iret ⟨rfl, rfl⟩ rfl C G_64 h_61 dX5_answer_245
  rw [if_neg hk9] at h_13
  by_cases hk10 : x2 = (10:Int32)
  · rw [if_pos hk10] at h_13
    refine lv_tableIn (tgt := 246) C.1 C.2.1 dX5_answer_21 (by rw [hk10]; decide) (by rw [hk10]; decide) (by rw [hk10]; rfl) (by decide) ?_
    refine lv_aload_n C.1 C.2.1 dX5_answer_246 rfl (lv_at hl_17 2 rfl) ?_
    refine lv_aload_n C.1 C.2.1 dX5_answer_247 rfl (lv_at hl_17 3 rfl) ?_
    refine lv_iload_n C.1 C.2.1 dX5_answer_248 rfl (lv_at hl_17 1 rfl) ?_
    obtain ⟨r_66, σ_65, hq, h_67⟩ := bd2_some h_13
    refine cl_callV (ci := 5) (rest := []) C G_16 rfl ha cw_RX5_237 [.ref (c0 + a_1), .int x3_7] _ (kc_X5_receiveTerm l D c0 (by rw [G_16.1]; exact ha) hq (by rw [G_16.1]; exact (cl_RTs t_2))) (Nat.le_of_ble_eq_true rfl) (Nat.le_of_ble_eq_true rfl) rfl rfl hl_17.1 (Nat.le_of_ble_eq_true rfl) dX5_answer_249 (fun T_68 H locs cells slots t_69 hu G_70 => ?_)
    have t_15 := t_15.up hu (by decide)
    have ha := hu.kind ha (by decide)
    have t_2 := hu.kind t_2 (by decide)
    refine W.eq (g2 := F0 m 252 ls [.int r_66]) rfl ?_
    exact cl_iret ⟨rfl, rfl⟩ rfl C G_70 h_67 dX5_answer_252
  rw [if_neg hk10] at h_13
  by_cases hk11 : x2 = (11:Int32)
  · rw [if_pos hk11] at h_13
    refine lv_tableIn (tgt := 253) C.1 C.2.1 dX5_answer_21 (by rw [hk11]; decide) (by rw [hk11]; decide) (by rw [hk11]; rfl) (by decide) ?_
    refine lv_aload_n C.1 C.2.1 dX5_answer_253 rfl (lv_at hl_17 2 rfl) ?_
    refine lv_aload_n C.1 C.2.1 dX5_answer_254 rfl (lv_at hl_17 3 rfl) ?_
    refine cl_aload C.1 C.2.1 dX5_answer_255 (lv_at hl_17 0 rfl) ?_
    obtain ⟨r_72, σ_71, hq, h_73⟩ := bd2_some h_13
    refine cl_callV (ci := 5) (rest := []) C G_16 rfl ha cw_RX5_240 [.ref (c0 + a_1), cl_rf c0 r_12] _ (kc_X5_outTerm l D c0 (by rw [G_16.1]; exact ha) hq (by rw [G_16.1]; exact (cl_RTs t_2)) (by rw [G_16.1]; exact t_15)) (Nat.le_of_ble_eq_true rfl) (Nat.le_of_ble_eq_true rfl) rfl rfl hl_17.1 (Nat.le_of_ble_eq_true rfl) dX5_answer_257 (fun T_74 H locs cells slots t_75 hu G_76 => ?_)
    have t_15 := t_15.up hu (by decide)
    have ha := hu.kind ha (by decide)
    have t_2 := hu.kind t_2 (by decide)
    refine W.eq (g2 := F0 m 260 ls [.int r_72]) rfl ?_
    exact cl_iret ⟨rfl, rfl⟩ rfl C G_76 h_73 dX5_answer_260
  rw [if_neg hk11] at h_13
  by_cases hk12 : x2 = (12:Int32)
  · rw [if_pos hk12] at h_13
    refine lv_tableIn (tgt := 261) C.1 C.2.1 dX5_answer_21 (by rw [hk12]; decide) (by rw [hk12]; decide) (by rw [hk12]; rfl) (by decide) ?_
    refine lv_aload_n C.1 C.2.1 dX5_answer_261 rfl (lv_at hl_17 3 rfl) ?_
    obtain ⟨r_78, σ_77, hq, h_79⟩ := bd2_some h_13
    refine cl_callV (ci := 6) (rest := []) C G_16 rfl t_2 cw_RX5_244 [] _ (kc_X6_askTerm l D c0 (by rw [G_16.1]; exact t_2) hq) (Nat.le_of_ble_eq_true rfl) (Nat.le_of_ble_eq_true rfl) rfl rfl hl_17.1 (Nat.le_of_ble_eq_true rfl) dX5_answer_262 (fun T_80 H locs cells slots t_81 hu G_82 => ?_)
    have t_15 := t_15.up hu (by decide)
    have ha := hu.kind ha (by decide)
    have t_2 := hu.kind t_2 (by decide)
    refine W.eq (g2 := F0 m 265 ls [.int r_78]) rfl ?_
    exact cl_iret ⟨rfl, rfl⟩ rfl C G_82 h_79 dX5_answer_265
  rw [if_neg hk12] at h_13
  by_cases hk13 : x2 = (13:Int32)
  · rw [if_pos hk13] at h_13
    refine lv_tableIn (tgt := 266) C.1 C.2.1 dX5_answer_21 (by rw [hk13]; decide) (by rw [hk13]; decide) (by rw [hk13]; rfl) (by decide) ?_
    refine lv_aload_n C.1 C.2.1 dX5_answer_266 rfl (lv_at hl_17 3 rfl) ?_
    refine cg_5_199 C G_16 t_2 dX5_answer_267 (fun t_83 => ?_)
    have t_83 : (T_14 (a_1 + 9)).1 = 24 := by rw [t_83]
    refine lv_iconst (v := (0:Int32)) C.1 C.2.1 dX5_answer_270 (by decide) ?_
    refine lv_iload_n C.1 C.2.1 dX5_answer_271 rfl (lv_at hl_17 1 rfl) ?_
    refine lv_aload_n C.1 C.2.1 dX5_answer_272 rfl (lv_at hl_17 2 rfl) ?_
    refine cg_5_51 C G_16 ha dX5_answer_273 (fun t_84 => ?_)
    have t_84 : (T_14 31).1 = 26 := by rw [t_84]
    refine cg_5_83 C G_16 t_84 dX5_answer_276 (fun t_85 => ?_)
    have t_85 : (T_14 33).1 = 25 := by rw [t_85]
    refine lv_aload_n C.1 C.2.1 dX5_answer_279 rfl (lv_at hl_17 2 rfl) ?_
    refine cg_5_51 C G_16 ha dX5_answer_280 (fun t_86 => ?_)
    have t_86 : (T_14 31).1 = 26 := by rw [t_86]
    refine cg_5_83 C G_16 t_86 dX5_answer_283 (fun t_87 => ?_)
    have t_87 : (T_14 33).1 = 25 := by rw [t_87]
    refine lv_aload_n C.1 C.2.1 dX5_answer_286 rfl (lv_at hl_17 2 rfl) ?_
    refine cg_5_51 C G_16 ha dX5_answer_287 (fun t_88 => ?_)
    have t_88 : (T_14 31).1 = 26 := by rw [t_88]
    refine cg_5_83 C G_16 t_88 dX5_answer_290 (fun t_89 => ?_)
    have t_89 : (T_14 33).1 = 25 := by rw [t_89]
    obtain ⟨r_91, σ_90, hq, h_92⟩ := bd2_some h_13
    refine cl_callV (ci := 8) (rest := []) C G_16 rfl t_83 cw_RX5_247 [.int (0:Int32), .int x3_7, .ref (c0 + 33), .ref (c0 + 33), .ref (c0 + 33)] _ (kc_X8_comeInMade l D c0 (by rw [G_16.1]; exact t_83) hq (by rw [G_16.1]; exact (cl_RTs t_85)) (by rw [G_16.1]; exact (cl_RTs t_87)) (by rw [G_16.1]; exact (cl_RTs t_89))) (Nat.le_of_ble_eq_true rfl) (Nat.le_of_ble_eq_true rfl) rfl rfl hl_17.1 (Nat.le_of_ble_eq_true rfl) dX5_answer_293 (fun T_93 H locs cells slots t_94 hu G_95 => ?_)
    have t_15 := t_15.up hu (by decide)
    have ha := hu.kind ha (by decide)
    have t_2 := hu.kind t_2 (by decide)
    refine W.eq (g2 := F0 m 296 ls [.int r_91]) rfl ?_
    exact cl_iret ⟨rfl, rfl⟩ rfl C G_95 h_92 dX5_answer_296
  rw [if_neg hk13] at h_13
  by_cases hk14 : x2 = (14:Int32)
  · rw [if_pos hk14] at h_13
    refine lv_tableIn (tgt := 297) C.1 C.2.1 dX5_answer_21 (by rw [hk14]; decide) (by rw [hk14]; decide) (by rw [hk14]; rfl) (by decide) ?_
    refine lv_aload_n C.1 C.2.1 dX5_answer_297 rfl (lv_at hl_17 2 rfl) ?_
    refine lv_aload_n C.1 C.2.1 dX5_answer_298 rfl (lv_at hl_17 3 rfl) ?_
    refine lv_iconst (v := (3:Int32)) C.1 C.2.1 dX5_answer_299 (by decide) ?_
    obtain ⟨r_97, σ_96, hq, h_98⟩ := bd2_some h_13
    refine cl_callV (ci := 5) (rest := []) C G_16 rfl ha cw_RX5_251 [.ref (c0 + a_1), .int (3:Int32)] _ (kc_X5_makeOf l D c0 (by rw [G_16.1]; exact ha) hq (by rw [G_16.1]; exact (cl_RTs t_2))) (Nat.le_of_ble_eq_true rfl) (Nat.le_of_ble_eq_true rfl) rfl rfl hl_17.1 (Nat.le_of_ble_eq_true rfl) dX5_answer_300 (fun T_99 H locs cells slots t_100 hu G_101 => ?_)
    have t_15 := t_15.up hu (by decide)
    have ha := hu.kind ha (by decide)
    have t_2 := hu.kind t_2 (by decide)
    refine W.eq (g2 := F0 m 303 ls [.int r_97]) rfl ?_
    exact cl_iret ⟨rfl, rfl⟩ rfl C G_101 h_98 dX5_answer_303
  rw [if_neg hk14] at h_13
  by_cases hk15 : x2 = (15:Int32)
  · rw [if_pos hk15] at h_13
    refine lv_tableIn (tgt := 304) C.1 C.2.1 dX5_answer_21 (by rw [hk15]; decide) (by rw [hk15]; decide) (by rw [hk15]; rfl) (by decide) ?_
    refine lv_aload_n C.1 C.2.1 dX5_answer_304 rfl (lv_at hl_17 2 rfl) ?_
    refine lv_aload_n C.1 C.2.1 dX5_answer_305 rfl (lv_at hl_17 3 rfl) ?_
    refine lv_iconst (v := (4:Int32)) C.1 C.2.1 dX5_answer_306 (by decide) ?_
    obtain ⟨r_103, σ_102, hq, h_104⟩ := bd2_some h_13
    refine cl_callV (ci := 5) (rest := []) C G_16 rfl ha cw_RX5_251 [.ref (c0 + a_1), .int (4:Int32)] _ (kc_X5_makeOf l D c0 (by rw [G_16.1]; exact ha) hq (by rw [G_16.1]; exact (cl_RTs t_2))) (Nat.le_of_ble_eq_true rfl) (Nat.le_of_ble_eq_true rfl) rfl rfl hl_17.1 (Nat.le_of_ble_eq_true rfl) dX5_answer_307 (fun T_105 H locs cells slots t_106 hu G_107 => ?_)
    have t_15 := t_15.up hu (by decide)
    have ha := hu.kind ha (by decide)
    have t_2 := hu.kind t_2 (by decide)
    refine W.eq (g2 := F0 m 310 ls [.int r_103]) rfl ?_
    exact cl_iret ⟨rfl, rfl⟩ rfl C G_107 h_104 dX5_answer_310
  rw [if_neg hk15] at h_13
  by_cases hk16 : x2 = (16:Int32)
  · rw [if_pos hk16] at h_13
    refine lv_tableIn (tgt := 311) C.1 C.2.1 dX5_answer_21 (by rw [hk16]; decide) (by rw [hk16]; decide) (by rw [hk16]; rfl) (by decide) ?_
    refine lv_aload_n C.1 C.2.1 dX5_answer_311 rfl (lv_at hl_17 2 rfl) ?_
    refine lv_aload_n C.1 C.2.1 dX5_answer_312 rfl (lv_at hl_17 3 rfl) ?_
    refine lv_iconst (v := (5:Int32)) C.1 C.2.1 dX5_answer_313 (by decide) ?_
    obtain ⟨r_109, σ_108, hq, h_110⟩ := bd2_some h_13
    refine cl_callV (ci := 5) (rest := []) C G_16 rfl ha cw_RX5_251 [.ref (c0 + a_1), .int (5:Int32)] _ (kc_X5_makeOf l D c0 (by rw [G_16.1]; exact ha) hq (by rw [G_16.1]; exact (cl_RTs t_2))) (Nat.le_of_ble_eq_true rfl) (Nat.le_of_ble_eq_true rfl) rfl rfl hl_17.1 (Nat.le_of_ble_eq_true rfl) dX5_answer_314 (fun T_111 H locs cells slots t_112 hu G_113 => ?_)
    have t_15 := t_15.up hu (by decide)
    have ha := hu.kind ha (by decide)
    have t_2 := hu.kind t_2 (by decide)
    refine W.eq (g2 := F0 m 317 ls [.int r_109]) rfl ?_
    exact cl_iret ⟨rfl, rfl⟩ rfl C G_113 h_110 dX5_answer_317
  rw [if_neg hk16] at h_13
  by_cases hk17 : x2 = (17:Int32)
  · rw [if_pos hk17] at h_13
    refine lv_tableIn (tgt := 318) C.1 C.2.1 dX5_answer_21 (by rw [hk17]; decide) (by rw [hk17]; decide) (by rw [hk17]; rfl) (by decide) ?_
    refine lv_aload_n C.1 C.2.1 dX5_answer_318 rfl (lv_at hl_17 2 rfl) ?_
    refine lv_aload_n C.1 C.2.1 dX5_answer_319 rfl (lv_at hl_17 3 rfl) ?_
    refine lv_bipush (v := (6:Int32)) C.1 C.2.1 dX5_answer_320 (by decide) ?_
    obtain ⟨r_115, σ_114, hq, h_116⟩ := bd2_some h_13
    refine cl_callV (ci := 5) (rest := []) C G_16 rfl ha cw_RX5_251 [.ref (c0 + a_1), .int (6:Int32)] _ (kc_X5_makeOf l D c0 (by rw [G_16.1]; exact ha) hq (by rw [G_16.1]; exact (cl_RTs t_2))) (Nat.le_of_ble_eq_true rfl) (Nat.le_of_ble_eq_true rfl) rfl rfl hl_17.1 (Nat.le_of_ble_eq_true rfl) dX5_answer_322 (fun T_117 H locs cells slots t_118 hu G_119 => ?_)
    have t_15 := t_15.up hu (by decide)
    have ha := hu.kind ha (by decide)
    have t_2 := hu.kind t_2 (by decide)
    refine W.eq (g2 := F0 m 325 ls [.int r_115]) rfl ?_
    exact cl_iret ⟨rfl, rfl⟩ rfl C G_119 h_116 dX5_answer_325
  rw [if_neg hk17] at h_13
  by_cases hk18 : x2 = (18:Int32)
  · rw [if_pos hk18] at h_13
    refine lv_tableIn (tgt := 326) C.1 C.2.1 dX5_answer_21 (by rw [hk18]; decide) (by rw [hk18]; decide) (by rw [hk18]; rfl) (by decide) ?_
    refine lv_aload_n C.1 C.2.1 dX5_answer_326 rfl (lv_at hl_17 2 rfl) ?_
    refine lv_aload_n C.1 C.2.1 dX5_answer_327 rfl (lv_at hl_17 3 rfl) ?_
    refine lv_bipush (v := (7:Int32)) C.1 C.2.1 dX5_answer_328 (by decide) ?_
    obtain ⟨r_121, σ_120, hq, h_122⟩ := bd2_some h_13
    refine cl_callV (ci := 5) (rest := []) C G_16 rfl ha cw_RX5_251 [.ref (c0 + a_1), .int (7:Int32)] _ (kc_X5_makeOf l D c0 (by rw [G_16.1]; exact ha) hq (by rw [G_16.1]; exact (cl_RTs t_2))) (Nat.le_of_ble_eq_true rfl) (Nat.le_of_ble_eq_true rfl) rfl rfl hl_17.1 (Nat.le_of_ble_eq_true rfl) dX5_answer_330 (fun T_123 H locs cells slots t_124 hu G_125 => ?_)
    have t_15 := t_15.up hu (by decide)
    have ha := hu.kind ha (by decide)
    have t_2 := hu.kind t_2 (by decide)
    refine W.eq (g2 := F0 m 333 ls [.int r_121]) rfl ?_
    exact cl_iret ⟨rfl, rfl⟩ rfl C G_125 h_122 dX5_answer_333
  rw [if_neg hk18] at h_13
  by_cases hk19 : x2 = (19:Int32)
  · rw [if_pos hk19] at h_13
    refine lv_tableIn (tgt := 334) C.1 C.2.1 dX5_answer_21 (by rw [hk19]; decide) (by rw [hk19]; decide) (by rw [hk19]; rfl) (by decide) ?_
    refine lv_aload_n C.1 C.2.1 dX5_answer_334 rfl (lv_at hl_17 2 rfl) ?_
    refine lv_aload_n C.1 C.2.1 dX5_answer_335 rfl (lv_at hl_17 3 rfl) ?_
    refine lv_bipush (v := (8:Int32)) C.1 C.2.1 dX5_answer_336 (by decide) ?_
    obtain ⟨r_127, σ_126, hq, h_128⟩ := bd2_some h_13
    refine cl_callV (ci := 5) (rest := []) C G_16 rfl ha cw_RX5_251 [.ref (c0 + a_1), .int (8:Int32)] _ (kc_X5_makeOf l D c0 (by rw [G_16.1]; exact ha) hq (by rw [G_16.1]; exact (cl_RTs t_2))) (Nat.le_of_ble_eq_true rfl) (Nat.le_of_ble_eq_true rfl) rfl rfl hl_17.1 (Nat.le_of_ble_eq_true rfl) dX5_answer_338 (fun T_129 H locs cells slots t_130 hu G_131 => ?_)
    have t_15 := t_15.up hu (by decide)
    have ha := hu.kind ha (by decide)
    have t_2 := hu.kind t_2 (by decide)
    refine W.eq (g2 := F0 m 341 ls [.int r_127]) rfl ?_
    exact cl_iret ⟨rfl, rfl⟩ rfl C G_131 h_128 dX5_answer_341
  rw [if_neg hk19] at h_13
  by_cases hk20 : x2 = (20:Int32)
  · rw [if_pos hk20] at h_13
    refine lv_tableIn (tgt := 342) C.1 C.2.1 dX5_answer_21 (by rw [hk20]; decide) (by rw [hk20]; decide) (by rw [hk20]; rfl) (by decide) ?_
    refine lv_aload_n C.1 C.2.1 dX5_answer_342 rfl (lv_at hl_17 2 rfl) ?_
    refine lv_aload_n C.1 C.2.1 dX5_answer_343 rfl (lv_at hl_17 3 rfl) ?_
    refine lv_bipush (v := (9:Int32)) C.1 C.2.1 dX5_answer_344 (by decide) ?_
    obtain ⟨r_133, σ_132, hq, h_134⟩ := bd2_some h_13
    refine cl_callV (ci := 5) (rest := []) C G_16 rfl ha cw_RX5_251 [.ref (c0 + a_1), .int (9:Int32)] _ (kc_X5_makeOf l D c0 (by rw [G_16.1]; exact ha) hq (by rw [G_16.1]; exact (cl_RTs t_2))) (Nat.le_of_ble_eq_true rfl) (Nat.le_of_ble_eq_true rfl) rfl rfl hl_17.1 (Nat.le_of_ble_eq_true rfl) dX5_answer_346 (fun T_135 H locs cells slots t_136 hu G_137 => ?_)
    have t_15 := t_15.up hu (by decide)
    have ha := hu.kind ha (by decide)
    have t_2 := hu.kind t_2 (by decide)
    refine W.eq (g2 := F0 m 349 ls [.int r_133]) rfl ?_
    exact cl_iret ⟨rfl, rfl⟩ rfl C G_137 h_134 dX5_answer_349
  rw [if_neg hk20] at h_13
  by_cases hk21 : x2 = (21:Int32)
  · rw [if_pos hk21] at h_13
    refine lv_tableIn (tgt := 350) C.1 C.2.1 dX5_answer_21 (by rw [hk21]; decide) (by rw [hk21]; decide) (by rw [hk21]; rfl) (by decide) ?_
    refine lv_aload_n C.1 C.2.1 dX5_answer_350 rfl (lv_at hl_17 3 rfl) ?_
    obtain ⟨r_139, σ_138, hq, h_140⟩ := bd2_some h_13
    refine cl_callV (ci := 6) (rest := []) C G_16 rfl t_2 cw_RX5_254 [] _ (kc_X6_askSecret l D c0 (by rw [G_16.1]; exact t_2) hq) (Nat.le_of_ble_eq_true rfl) (Nat.le_of_ble_eq_true rfl) rfl rfl hl_17.1 (Nat.le_of_ble_eq_true rfl) dX5_answer_351 (fun T_141 H locs cells slots t_142 hu G_143 => ?_)
    have t_15 := t_15.up hu (by decide)
    have ha := hu.kind ha (by decide)
    have t_2 := hu.kind t_2 (by decide)
    refine W.eq (g2 := F0 m 354 ls [.int r_139]) rfl ?_
    exact cl_iret ⟨rfl, rfl⟩ rfl C G_143 h_140 dX5_answer_354
  rw [if_neg hk21] at h_13
  by_cases hk22 : x2 = (22:Int32)
  · rw [if_pos hk22] at h_13
    refine lv_tableIn (tgt := 355) C.1 C.2.1 dX5_answer_21 (by rw [hk22]; decide) (by rw [hk22]; decide) (by rw [hk22]; rfl) (by decide) ?_
    refine cl_aload C.1 C.2.1 dX5_answer_355 (lv_at hl_17 0 rfl) ?_
    refine lv_aload_n C.1 C.2.1 dX5_answer_357 rfl (lv_at hl_17 2 rfl) ?_
    refine cg_5_51 C G_16 ha dX5_answer_358 (fun t_144 => ?_)
    have t_144 : (T_14 31).1 = 26 := by rw [t_144]
    refine cg_5_83 C G_16 t_144 dX5_answer_361 (fun t_145 => ?_)
    have t_145 : (T_14 33).1 = 25 := by rw [t_145]
    refine cl_acmp_ne (rx := r_12) (ry := (some 33)) (tgt := 372) C.1 C.2.1 dX5_answer_364 (by decide) (fun hc => ?_) (fun hc => ?_)
    · rw [if_neg hc] at h_13
      refine cl_aload C.1 C.2.1 dX5_answer_372 (lv_at hl_17 0 rfl) ?_
      obtain ⟨a_146, rfl, h_148⟩ := nn_some h_13
      have t_147 := t_15 _ rfl
      refine cg_5_257 C G_16 t_147 dX5_answer_374 ?_
      exact cl_iret ⟨rfl, rfl⟩ rfl C G_16 h_148 dX5_answer_377
    · rw [if_pos hc] at h_13
      refine lv_bipush (v := (-2:Int32)) C.1 C.2.1 dX5_answer_367 (by decide) ?_
      refine lv_goto (tgt := 377) C.1 C.2.1 dX5_answer_369 (by decide) ?_
      exact cl_iret ⟨rfl, rfl⟩ rfl C G_16 h_13 dX5_answer_377
  rw [if_neg hk22] at h_13
  by_cases hk23 : x2 = (23:Int32)
  · rw [if_pos hk23] at h_13
    refine lv_tableIn (tgt := 378) C.1 C.2.1 dX5_answer_21 (by rw [hk23]; decide) (by rw [hk23]; decide) (by rw [hk23]; rfl) (by decide) ?_
    refine lv_aload_n C.1 C.2.1 dX5_answer_378 rfl (lv_at hl_17 2 rfl) ?_
    refine lv_aload_n C.1 C.2.1 dX5_answer_379 rfl (lv_at hl_17 3 rfl) ?_
    refine cl_aload C.1 C.2.1 dX5_answer_380 (lv_at hl_17 0 rfl) ?_
    obtain ⟨r_150, σ_149, hq, h_151⟩ := bd2_some h_13
    refine cl_callV (ci := 5) (rest := []) C G_16 rfl ha cw_RX5_260 [.ref (c0 + a_1), cl_rf c0 r_12] _ (kc_X5_lookAtNumber l D c0 (by rw [G_16.1]; exact ha) hq (by rw [G_16.1]; exact (cl_RTs t_2)) (by rw [G_16.1]; exact t_15)) (Nat.le_of_ble_eq_true rfl) (Nat.le_of_ble_eq_true rfl) rfl rfl hl_17.1 (Nat.le_of_ble_eq_true rfl) dX5_answer_382 (fun T_152 H locs cells slots t_153 hu G_154 => ?_)
    have t_15 := t_15.up hu (by decide)
    have ha := hu.kind ha (by decide)
    have t_2 := hu.kind t_2 (by decide)
    refine W.eq (g2 := F0 m 385 ls [.int r_150]) rfl ?_
    exact cl_iret ⟨rfl, rfl⟩ rfl C G_154 h_151 dX5_answer_385
  rw [if_neg hk23] at h_13
  by_cases hk24 : x2 = (24:Int32)
  · rw [if_pos hk24] at h_13
    refine lv_tableIn (tgt := 386) C.1 C.2.1 dX5_answer_21 (by rw [hk24]; decide) (by rw [hk24]; decide) (by rw [hk24]; rfl) (by decide) ?_
    refine lv_aload_n C.1 C.2.1 dX5_answer_386 rfl (lv_at hl_17 2 rfl) ?_
    refine lv_aload_n C.1 C.2.1 dX5_answer_387 rfl (lv_at hl_17 3 rfl) ?_
    refine cl_aload C.1 C.2.1 dX5_answer_388 (lv_at hl_17 0 rfl) ?_
    refine lv_iconst (v := (3:Int32)) C.1 C.2.1 dX5_answer_390 (by decide) ?_
    refine cl_aload C.1 C.2.1 dX5_answer_391 (lv_at hl_17 0 rfl) ?_
    obtain ⟨a_155, rfl, h_157⟩ := nn_some h_13
    have t_156 := t_15 _ rfl
    refine cg_5_263 C G_16 t_156 dX5_answer_393 (fun t_158 => ?_)
    refine vt_r (K := 25) t_158 h_157 (fun r_159 t_160 h_161 => ?_)
    obtain ⟨r_163, σ_162, hq, h_164⟩ := bd2_some h_161
    refine cl_callV (ci := 5) (rest := []) C G_16 rfl ha cw_RX5_266 [.ref (c0 + a_1), .ref (c0 + a_155), .int (3:Int32), cl_rf c0 r_159] _ (kc_X5_lookInto l D c0 (by rw [G_16.1]; exact ha) hq (by rw [G_16.1]; exact (cl_RTs t_2)) (by rw [G_16.1]; exact (cl_RTs t_156)) (by rw [G_16.1]; exact t_160)) (Nat.le_of_ble_eq_true rfl) (Nat.le_of_ble_eq_true rfl) rfl rfl hl_17.1 (Nat.le_of_ble_eq_true rfl) dX5_answer_396 (fun T_165 H locs cells slots t_166 hu G_167 => ?_)
    have t_156 := hu.kind t_156 (by decide)
    have ha := hu.kind ha (by decide)
    have t_2 := hu.kind t_2 (by decide)
    refine W.eq (g2 := F0 m 399 ls [.int r_163]) rfl ?_
    exact cl_iret ⟨rfl, rfl⟩ rfl C G_167 h_164 dX5_answer_399
  rw [if_neg hk24] at h_13
  by_cases hk25 : x2 = (25:Int32)
  · rw [if_pos hk25] at h_13
    refine lv_tableIn (tgt := 400) C.1 C.2.1 dX5_answer_21 (by rw [hk25]; decide) (by rw [hk25]; decide) (by rw [hk25]; rfl) (by decide) ?_
    refine lv_aload_n C.1 C.2.1 dX5_answer_400 rfl (lv_at hl_17 2 rfl) ?_
    refine lv_aload_n C.1 C.2.1 dX5_answer_401 rfl (lv_at hl_17 3 rfl) ?_
    refine cl_aload C.1 C.2.1 dX5_answer_402 (lv_at hl_17 0 rfl) ?_
    refine lv_iconst (v := (3:Int32)) C.1 C.2.1 dX5_answer_404 (by decide) ?_
    refine cl_aload C.1 C.2.1 dX5_answer_405 (lv_at hl_17 0 rfl) ?_
    obtain ⟨a_168, rfl, h_170⟩ := nn_some h_13
    have t_169 := t_15 _ rfl
    refine cg_5_270 C G_16 t_169 dX5_answer_407 (fun t_171 => ?_)
    refine vt_r (K := 25) t_171 h_170 (fun r_172 t_173 h_174 => ?_)
    obtain ⟨r_176, σ_175, hq, h_177⟩ := bd2_some h_174
    refine cl_callV (ci := 5) (rest := []) C G_16 rfl ha cw_RX5_266 [.ref (c0 + a_1), .ref (c0 + a_168), .int (3:Int32), cl_rf c0 r_172] _ (kc_X5_lookInto l D c0 (by rw [G_16.1]; exact ha) hq (by rw [G_16.1]; exact (cl_RTs t_2)) (by rw [G_16.1]; exact (cl_RTs t_169)) (by rw [G_16.1]; exact t_173)) (Nat.le_of_ble_eq_true rfl) (Nat.le_of_ble_eq_true rfl) rfl rfl hl_17.1 (Nat.le_of_ble_eq_true rfl) dX5_answer_410 (fun T_178 H locs cells slots t_179 hu G_180 => ?_)
    have t_169 := hu.kind t_169 (by decide)
    have ha := hu.kind ha (by decide)
    have t_2 := hu.kind t_2 (by decide)
    refine W.eq (g2 := F0 m 413 ls [.int r_176]) rfl ?_
    exact cl_iret ⟨rfl, rfl⟩ rfl C G_180 h_177 dX5_answer_413
  rw [if_neg hk25] at h_13
  by_cases hk26 : x2 = (26:Int32)
  · rw [if_pos hk26] at h_13
    refine lv_tableIn (tgt := 414) C.1 C.2.1 dX5_answer_21 (by rw [hk26]; decide) (by rw [hk26]; decide) (by rw [hk26]; rfl) (by decide) ?_
    refine lv_aload_n C.1 C.2.1 dX5_answer_414 rfl (lv_at hl_17 2 rfl) ?_
    refine lv_aload_n C.1 C.2.1 dX5_answer_415 rfl (lv_at hl_17 3 rfl) ?_
    refine cl_aload C.1 C.2.1 dX5_answer_416 (lv_at hl_17 0 rfl) ?_
    refine lv_bipush (v := (7:Int32)) C.1 C.2.1 dX5_answer_418 (by decide) ?_
    refine cl_aload C.1 C.2.1 dX5_answer_420 (lv_at hl_17 0 rfl) ?_
    obtain ⟨a_181, rfl, h_183⟩ := nn_some h_13
    have t_182 := t_15 _ rfl
    refine cg_5_270 C G_16 t_182 dX5_answer_422 (fun t_184 => ?_)
    refine vt_r (K := 25) t_184 h_183 (fun r_185 t_186 h_187 => ?_)
    obtain ⟨r_189, σ_188, hq, h_190⟩ := bd2_some h_187
    refine cl_callV (ci := 5) (rest := []) C G_16 rfl ha cw_RX5_266 [.ref (c0 + a_1), .ref (c0 + a_181), .int (7:Int32), cl_rf c0 r_185] _ (kc_X5_lookInto l D c0 (by rw [G_16.1]; exact ha) hq (by rw [G_16.1]; exact (cl_RTs t_2)) (by rw [G_16.1]; exact (cl_RTs t_182)) (by rw [G_16.1]; exact t_186)) (Nat.le_of_ble_eq_true rfl) (Nat.le_of_ble_eq_true rfl) rfl rfl hl_17.1 (Nat.le_of_ble_eq_true rfl) dX5_answer_425 (fun T_191 H locs cells slots t_192 hu G_193 => ?_)
    have t_182 := hu.kind t_182 (by decide)
    have ha := hu.kind ha (by decide)
    have t_2 := hu.kind t_2 (by decide)
    refine W.eq (g2 := F0 m 428 ls [.int r_189]) rfl ?_
    exact cl_iret ⟨rfl, rfl⟩ rfl C G_193 h_190 dX5_answer_428
  rw [if_neg hk26] at h_13
  by_cases hk27 : x2 = (27:Int32)
  · rw [if_pos hk27] at h_13
    refine lv_tableIn (tgt := 429) C.1 C.2.1 dX5_answer_21 (by rw [hk27]; decide) (by rw [hk27]; decide) (by rw [hk27]; rfl) (by decide) ?_
    refine lv_aload_n C.1 C.2.1 dX5_answer_429 rfl (lv_at hl_17 2 rfl) ?_
    refine lv_aload_n C.1 C.2.1 dX5_answer_430 rfl (lv_at hl_17 3 rfl) ?_
    refine cl_aload C.1 C.2.1 dX5_answer_431 (lv_at hl_17 0 rfl) ?_
    obtain ⟨r_195, σ_194, hq, h_196⟩ := bd2_some h_13
    refine cl_callV (ci := 5) (rest := []) C G_16 rfl ha cw_RX5_273 [.ref (c0 + a_1), cl_rf c0 r_12] _ (kc_X5_checkSigned l D c0 (by rw [G_16.1]; exact ha) hq (by rw [G_16.1]; exact (cl_RTs t_2)) (by rw [G_16.1]; exact t_15)) (Nat.le_of_ble_eq_true rfl) (Nat.le_of_ble_eq_true rfl) rfl rfl hl_17.1 (Nat.le_of_ble_eq_true rfl) dX5_answer_433 (fun T_197 H locs cells slots t_198 hu G_199 => ?_)
    have t_15 := t_15.up hu (by decide)
    have ha := hu.kind ha (by decide)
    have t_2 := hu.kind t_2 (by decide)
    refine W.eq (g2 := F0 m 436 ls [.int r_195]) rfl ?_
    exact cl_iret ⟨rfl, rfl⟩ rfl C G_199 h_196 dX5_answer_436
  rw [if_neg hk27] at h_13
  by_cases hk28 : x2 = (28:Int32)
  · rw [if_pos hk28] at h_13
    refine lv_tableIn (tgt := 437) C.1 C.2.1 dX5_answer_21 (by rw [hk28]; decide) (by rw [hk28]; decide) (by rw [hk28]; rfl) (by decide) ?_
    refine lv_aload_n C.1 C.2.1 dX5_answer_437 rfl (lv_at hl_17 2 rfl) ?_
    refine lv_aload_n C.1 C.2.1 dX5_answer_438 rfl (lv_at hl_17 3 rfl) ?_
    refine cl_aload C.1 C.2.1 dX5_answer_439 (lv_at hl_17 0 rfl) ?_
    obtain ⟨r_201, σ_200, hq, h_202⟩ := bd2_some h_13
    refine cl_callV (ci := 5) (rest := []) C G_16 rfl ha cw_RX5_276 [.ref (c0 + a_1), cl_rf c0 r_12] _ (kc_X5_openClosed l D c0 (by rw [G_16.1]; exact ha) hq (by rw [G_16.1]; exact (cl_RTs t_2)) (by rw [G_16.1]; exact t_15)) (Nat.le_of_ble_eq_true rfl) (Nat.le_of_ble_eq_true rfl) rfl rfl hl_17.1 (Nat.le_of_ble_eq_true rfl) dX5_answer_441 (fun T_203 H locs cells slots t_204 hu G_205 => ?_)
    have t_15 := t_15.up hu (by decide)
    have ha := hu.kind ha (by decide)
    have t_2 := hu.kind t_2 (by decide)
    refine W.eq (g2 := F0 m 444 ls [.int r_201]) rfl ?_
    exact cl_iret ⟨rfl, rfl⟩ rfl C G_205 h_202 dX5_answer_444
  rw [if_neg hk28] at h_13
  by_cases hk29 : x2 = (29:Int32)
  · rw [if_pos hk29] at h_13
    refine lv_tableIn (tgt := 445) C.1 C.2.1 dX5_answer_21 (by rw [hk29]; decide) (by rw [hk29]; decide) (by rw [hk29]; rfl) (by decide) ?_
    refine lv_aload_n C.1 C.2.1 dX5_answer_445 rfl (lv_at hl_17 3 rfl) ?_
    refine cg_5_199 C G_16 t_2 dX5_answer_446 (fun t_206 => ?_)
    have t_206 : (T_14 (a_1 + 9)).1 = 24 := by rw [t_206]
    refine lv_aload_n C.1 C.2.1 dX5_answer_449 rfl (lv_at hl_17 3 rfl) ?_
    refine cg_5_279 C G_16 t_2 dX5_answer_450 (fun t_207 => ?_)
    refine vt_r (K := 25) t_207 h_13 (fun r_208 t_209 h_210 => ?_)
    obtain ⟨r_212, σ_211, hq, h_213⟩ := bd2_some h_210
    refine cl_callV (ci := 8) (rest := []) C G_16 rfl t_206 cw_RX5_282 [cl_rf c0 r_208] _ (kc_X8_comeIn l D c0 (by rw [G_16.1]; exact t_206) hq (by rw [G_16.1]; exact t_209)) (Nat.le_of_ble_eq_true rfl) (Nat.le_of_ble_eq_true rfl) rfl rfl hl_17.1 (Nat.le_of_ble_eq_true rfl) dX5_answer_453 (fun T_214 H locs cells slots t_215 hu G_216 => ?_)
    have t_15 := t_15.up hu (by decide)
    have ha := hu.kind ha (by decide)
    have t_2 := hu.kind t_2 (by decide)
    refine W.eq (g2 := F0 m 456 ls [.int r_212]) rfl ?_
    exact cl_iret ⟨rfl, rfl⟩ rfl C G_216 h_213 dX5_answer_456
  rw [if_neg hk29] at h_13
  by_cases hk30 : x2 = (30:Int32)
  · rw [if_pos hk30] at h_13
    refine lv_tableIn (tgt := 457) C.1 C.2.1 dX5_answer_21 (by rw [hk30]; decide) (by rw [hk30]; decide) (by rw [hk30]; rfl) (by decide) ?_
    refine lv_aload_n C.1 C.2.1 dX5_answer_457 rfl (lv_at hl_17 2 rfl) ?_
    refine lv_aload_n C.1 C.2.1 dX5_answer_458 rfl (lv_at hl_17 3 rfl) ?_
    refine cl_aload C.1 C.2.1 dX5_answer_459 (lv_at hl_17 0 rfl) ?_
    obtain ⟨r_218, σ_217, hq, h_219⟩ := bd2_some h_13
    refine cl_callV (ci := 5) (rest := []) C G_16 rfl ha cw_RX5_285 [.ref (c0 + a_1), cl_rf c0 r_12] _ (kc_X5_quote l D c0 (by rw [G_16.1]; exact ha) hq (by rw [G_16.1]; exact (cl_RTs t_2)) (by rw [G_16.1]; exact t_15)) (Nat.le_of_ble_eq_true rfl) (Nat.le_of_ble_eq_true rfl) rfl rfl hl_17.1 (Nat.le_of_ble_eq_true rfl) dX5_answer_461 (fun T_220 H locs cells slots t_221 hu G_222 => ?_)
    have t_15 := t_15.up hu (by decide)
    have ha := hu.kind ha (by decide)
    have t_2 := hu.kind t_2 (by decide)
    refine W.eq (g2 := F0 m 464 ls [.int r_218]) rfl ?_
    exact cl_iret ⟨rfl, rfl⟩ rfl C G_222 h_219 dX5_answer_464
  rw [if_neg hk30] at h_13
  by_cases hk31 : x2 = (31:Int32)
  · rw [if_pos hk31] at h_13
    refine lv_tableIn (tgt := 465) C.1 C.2.1 dX5_answer_21 (by rw [hk31]; decide) (by rw [hk31]; decide) (by rw [hk31]; rfl) (by decide) ?_
    refine lv_aload_n C.1 C.2.1 dX5_answer_465 rfl (lv_at hl_17 3 rfl) ?_
    refine cg_5_199 C G_16 t_2 dX5_answer_466 (fun t_223 => ?_)
    have t_223 : (T_14 (a_1 + 9)).1 = 24 := by rw [t_223]
    refine lv_aload_n C.1 C.2.1 dX5_answer_469 rfl (lv_at hl_17 2 rfl) ?_
    refine cg_5_51 C G_16 ha dX5_answer_470 (fun t_224 => ?_)
    have t_224 : (T_14 31).1 = 26 := by rw [t_224]
    refine cg_5_288 C G_16 t_224 dX5_answer_473 (fun t_225 => ?_)
    have t_225 : (T_14 37).1 = 25 := by rw [t_225]
    obtain ⟨r_227, σ_226, hq, h_228⟩ := bd2_some h_13
    refine cl_callV (ci := 8) (rest := []) C G_16 rfl t_223 cw_RX5_282 [.ref (c0 + 37)] _ (kc_X8_comeIn l D c0 (by rw [G_16.1]; exact t_223) hq (by rw [G_16.1]; exact (cl_RTs t_225))) (Nat.le_of_ble_eq_true rfl) (Nat.le_of_ble_eq_true rfl) rfl rfl hl_17.1 (Nat.le_of_ble_eq_true rfl) dX5_answer_476 (fun T_229 H locs cells slots t_230 hu G_231 => ?_)
    have t_15 := t_15.up hu (by decide)
    have ha := hu.kind ha (by decide)
    have t_2 := hu.kind t_2 (by decide)
    refine W.eq (g2 := F0 m 479 ls [.int r_227]) rfl ?_
    exact cl_iret ⟨rfl, rfl⟩ rfl C G_231 h_228 dX5_answer_479
  rw [if_neg hk31] at h_13
  by_cases hk32 : x2 = (32:Int32)
  · rw [if_pos hk32] at h_13
    refine lv_tableIn (tgt := 480) C.1 C.2.1 dX5_answer_21 (by rw [hk32]; decide) (by rw [hk32]; decide) (by rw [hk32]; rfl) (by decide) ?_
    refine lv_aload_n C.1 C.2.1 dX5_answer_480 rfl (lv_at hl_17 2 rfl) ?_
    refine lv_aload_n C.1 C.2.1 dX5_answer_481 rfl (lv_at hl_17 3 rfl) ?_
    refine lv_iload_n C.1 C.2.1 dX5_answer_482 rfl (lv_at hl_17 1 rfl) ?_
    obtain ⟨r_233, σ_232, hq, h_234⟩ := bd2_some h_13
    refine cl_callV (ci := 5) (rest := []) C G_16 rfl ha cw_RX5_291 [.ref (c0 + a_1), .int x3_7] _ (kc_X5_seal l D c0 (by rw [G_16.1]; exact ha) hq (by rw [G_16.1]; exact (cl_RTs t_2))) (Nat.le_of_ble_eq_true rfl) (Nat.le_of_ble_eq_true rfl) rfl rfl hl_17.1 (Nat.le_of_ble_eq_true rfl) dX5_answer_483 (fun T_235 H locs cells slots t_236 hu G_237 => ?_)
    have t_15 := t_15.up hu (by decide)
    have ha := hu.kind ha (by decide)
    have t_2 := hu.kind t_2 (by decide)
    refine W.eq (g2 := F0 m 486 ls [.int r_233]) rfl ?_
    exact cl_iret ⟨rfl, rfl⟩ rfl C G_237 h_234 dX5_answer_486
  rw [if_neg hk32] at h_13
  by_cases hk33 : x2 = (33:Int32)
  · rw [if_pos hk33] at h_13
    refine lv_tableIn (tgt := 487) C.1 C.2.1 dX5_answer_21 (by rw [hk33]; decide) (by rw [hk33]; decide) (by rw [hk33]; rfl) (by decide) ?_
    refine lv_aload_n C.1 C.2.1 dX5_answer_487 rfl (lv_at hl_17 2 rfl) ?_
    refine lv_aload_n C.1 C.2.1 dX5_answer_488 rfl (lv_at hl_17 3 rfl) ?_
    refine lv_iload_n C.1 C.2.1 dX5_answer_489 rfl (lv_at hl_17 1 rfl) ?_
    obtain ⟨r_239, σ_238, hq, h_240⟩ := bd2_some h_13
    refine cl_callV (ci := 5) (rest := []) C G_16 rfl ha cw_RX5_294 [.ref (c0 + a_1), .int x3_7] _ (kc_X5_unseal l D c0 (by rw [G_16.1]; exact ha) hq (by rw [G_16.1]; exact (cl_RTs t_2))) (Nat.le_of_ble_eq_true rfl) (Nat.le_of_ble_eq_true rfl) rfl rfl hl_17.1 (Nat.le_of_ble_eq_true rfl) dX5_answer_490 (fun T_241 H locs cells slots t_242 hu G_243 => ?_)
    have t_15 := t_15.up hu (by decide)
    have ha := hu.kind ha (by decide)
    have t_2 := hu.kind t_2 (by decide)
    refine W.eq (g2 := F0 m 493 ls [.int r_239]) rfl ?_
    exact cl_iret ⟨rfl, rfl⟩ rfl C G_243 h_240 dX5_answer_493
  rw [if_neg hk33] at h_13
  refine lv_tableOut (tgt := 494) C.1 C.2.1 dX5_answer_21 ?_ (by decide) ?_
  · rcases Int.lt_or_le x2.toInt 0 with q | q
    · exact Or.inl q
    · rcases Int.lt_or_le 33 x2.toInt with q2 | q2
      · exact Or.inr q2
      · exfalso
        have hd : x2.toInt = (0 : Int) ∨ x2.toInt = (1 : Int) ∨ x2.toInt = (2 : Int) ∨ x2.toInt = (3 : Int) ∨ x2.toInt = (4 : Int) ∨ x2.toInt = (5 : Int) ∨ x2.toInt = (6 : Int) ∨ x2.toInt = (7 : Int) ∨ x2.toInt = (8 : Int) ∨ x2.toInt = (9 : Int) ∨ x2.toInt = (10 : Int) ∨ x2.toInt = (11 : Int) ∨ x2.toInt = (12 : Int) ∨ x2.toInt = (13 : Int) ∨ x2.toInt = (14 : Int) ∨ x2.toInt = (15 : Int) ∨ x2.toInt = (16 : Int) ∨ x2.toInt = (17 : Int) ∨ x2.toInt = (18 : Int) ∨ x2.toInt = (19 : Int) ∨ x2.toInt = (20 : Int) ∨ x2.toInt = (21 : Int) ∨ x2.toInt = (22 : Int) ∨ x2.toInt = (23 : Int) ∨ x2.toInt = (24 : Int) ∨ x2.toInt = (25 : Int) ∨ x2.toInt = (26 : Int) ∨ x2.toInt = (27 : Int) ∨ x2.toInt = (28 : Int) ∨ x2.toInt = (29 : Int) ∨ x2.toInt = (30 : Int) ∨ x2.toInt = (31 : Int) ∨ x2.toInt = (32 : Int) ∨ x2.toInt = (33 : Int) := by omega
        rcases hd with e | e | e | e | e | e | e | e | e | e | e | e | e | e | e | e | e | e | e | e | e | e | e | e | e | e | e | e | e | e | e | e | e | e
        · exact hk0 (Int32.toInt_inj.mp (e.trans (by decide)))
        · exact hk1 (Int32.toInt_inj.mp (e.trans (by decide)))
        · exact hk2 (Int32.toInt_inj.mp (e.trans (by decide)))
        · exact hk3 (Int32.toInt_inj.mp (e.trans (by decide)))
        · exact hk4 (Int32.toInt_inj.mp (e.trans (by decide)))
        · exact hk5 (Int32.toInt_inj.mp (e.trans (by decide)))
        · exact hk6 (Int32.toInt_inj.mp (e.trans (by decide)))
        · exact hk7 (Int32.toInt_inj.mp (e.trans (by decide)))
        · exact hk8 (Int32.toInt_inj.mp (e.trans (by decide)))
        · exact hk9 (Int32.toInt_inj.mp (e.trans (by decide)))
        · exact hk10 (Int32.toInt_inj.mp (e.trans (by decide)))
        · exact hk11 (Int32.toInt_inj.mp (e.trans (by decide)))
        · exact hk12 (Int32.toInt_inj.mp (e.trans (by decide)))
        · exact hk13 (Int32.toInt_inj.mp (e.trans (by decide)))
        · exact hk14 (Int32.toInt_inj.mp (e.trans (by decide)))
        · exact hk15 (Int32.toInt_inj.mp (e.trans (by decide)))
        · exact hk16 (Int32.toInt_inj.mp (e.trans (by decide)))
        · exact hk17 (Int32.toInt_inj.mp (e.trans (by decide)))
        · exact hk18 (Int32.toInt_inj.mp (e.trans (by decide)))
        · exact hk19 (Int32.toInt_inj.mp (e.trans (by decide)))
        · exact hk20 (Int32.toInt_inj.mp (e.trans (by decide)))
        · exact hk21 (Int32.toInt_inj.mp (e.trans (by decide)))
        · exact hk22 (Int32.toInt_inj.mp (e.trans (by decide)))
        · exact hk23 (Int32.toInt_inj.mp (e.trans (by decide)))
        · exact hk24 (Int32.toInt_inj.mp (e.trans (by decide)))
        · exact hk25 (Int32.toInt_inj.mp (e.trans (by decide)))
        · exact hk26 (Int32.toInt_inj.mp (e.trans (by decide)))
        · exact hk27 (Int32.toInt_inj.mp (e.trans (by decide)))
        · exact hk28 (Int32.toInt_inj.mp (e.trans (by decide)))
        · exact hk29 (Int32.toInt_inj.mp (e.trans (by decide)))
        · exact hk30 (Int32.toInt_inj.mp (e.trans (by decide)))
        · exact hk31 (Int32.toInt_inj.mp (e.trans (by decide)))
        · exact hk32 (Int32.toInt_inj.mp (e.trans (by decide)))
        · exact hk33 (Int32.toInt_inj.mp (e.trans (by decide)))
  · refine lv_aload_n C.1 C.2.1 dX5_answer_494 rfl (lv_at hl_17 2 rfl) ?_
    refine lv_aload_n C.1 C.2.1 dX5_answer_495 rfl (lv_at hl_17 3 rfl) ?_
    refine lv_iload_n C.1 C.2.1 dX5_answer_496 rfl (lv_at hl_17 1 rfl) ?_
    obtain ⟨r_245, σ_244, hq, h_246⟩ := bd2_some h_13
    refine cl_callV (ci := 5) (rest := []) C G_16 rfl ha cw_RX5_297 [.ref (c0 + a_1), .int x3_7] _ (kc_X5_versionThatCounts l D c0 (by rw [G_16.1]; exact ha) hq (by rw [G_16.1]; exact (cl_RTs t_2))) (Nat.le_of_ble_eq_true rfl) (Nat.le_of_ble_eq_true rfl) rfl rfl hl_17.1 (Nat.le_of_ble_eq_true rfl) dX5_answer_497 (fun T_247 H locs cells slots t_248 hu G_249 => ?_)
    have t_15 := t_15.up hu (by decide)
    have ha := hu.kind ha (by decide)
    have t_2 := hu.kind t_2 (by decide)
    refine W.eq (g2 := F0 m 500 ls [.int r_245]) rfl ?_
    exact cl_iret ⟨rfl, rfl⟩ rfl C G_249 h_246 dX5_answer_500
noncomputable def fc_X5_answer (a : Nat) (x1 : (Option Nat)) (x2 : Int32) (σ : cl_S) : Option (Int32 × cl_S) := bc_X5_answer_0 a x1 x2 σ
theorem kc_X5_answer (l : Launch) (D : cl_D) (c0 : Nat) {r : Int32} {a : Nat} {x1 : (Option Nat)} {x2 : Int32} {σ σ' : cl_S} (ha : (σ.2.2.2.1 a).1 = 21) (h : fc_X5_answer a x1 x2 σ = some (r, σ')) (f1 : cl_RT σ.2.2.2.1 x1 22) : cl_Met true l D c0 yX5_answer cX5_answer 5 (some .int) 6 160 [.ref (c0 + a), cl_rf c0 x1, .int x2] σ (some (.int r)) cl_no σ' :=
  by cases x1 <;> exact cl_of (by decide) (Nat.le_of_ble_eq_true rfl) (fun p e s m args below meth c ls C hn G hl => wc_X5_answer_0 C h G ha f1 hl)
abbrev cX5_endAsk : ByteArray := prog_7_method_10_code
def yX5_endAsk : MethodName := ⟨RX5, "endAsk", "(LPartHouse$Core;I)V"⟩
theorem dX5_endAsk_0 : decode cX5_endAsk 0 = .ok (.aload_n 0, 1) := by decide +kernel
theorem dX5_endAsk_1 : decode cX5_endAsk 1 = .ok (.getfield 133, 3) := by decide +kernel
theorem dX5_endAsk_4 : decode cX5_endAsk 4 = .ok (.ifCond .eq 20, 3) := by decide +kernel
theorem dX5_endAsk_7 : decode cX5_endAsk 7 = .ok (.aload_n 1, 1) := by decide +kernel
theorem dX5_endAsk_8 : decode cX5_endAsk 8 = .ok (.getfield 193, 3) := by decide +kernel
theorem dX5_endAsk_11 : decode cX5_endAsk 11 = .ok (.iconst 1, 1) := by decide +kernel
theorem dX5_endAsk_12 : decode cX5_endAsk 12 = .ok (.iload_n 2, 1) := by decide +kernel
theorem dX5_endAsk_13 : decode cX5_endAsk 13 = .ok (.iastore, 1) := by decide +kernel
theorem dX5_endAsk_14 : decode cX5_endAsk 14 = .ok (.aload_n 1, 1) := by decide +kernel
theorem dX5_endAsk_15 : decode cX5_endAsk 15 = .ok (.dup, 1) := by decide +kernel
theorem dX5_endAsk_16 : decode cX5_endAsk 16 = .ok (.getfield 196, 3) := by decide +kernel
theorem dX5_endAsk_19 : decode cX5_endAsk 19 = .ok (.iconst 4, 1) := by decide +kernel
theorem dX5_endAsk_20 : decode cX5_endAsk 20 = .ok (.iadd, 1) := by decide +kernel
theorem dX5_endAsk_21 : decode cX5_endAsk 21 = .ok (.putfield 196, 3) := by decide +kernel
theorem dX5_endAsk_24 : decode cX5_endAsk 24 = .ok (.return_, 1) := by decide +kernel
theorem cc_X5_endAsk : Cond.code yX5_endAsk cX5_endAsk 3 none ∈ rf_tb := rf_at 1329 (by decide +kernel) (by decide +kernel)
noncomputable def bc_X5_endAsk_0 (a : Nat) (x1 : (Option Nat)) (x2 : Int32) (σ : cl_S) : Option (cl_S) := (if (σ.1 a 8) = 0 then some σ else nn x1 (fun a_1 => ix (1:Int32) 16 (vl (cl_w σ (a_1 + 2) (1:Int32).toNatClampNeg x2) (fun σ_5 => vl (cl_w σ_5 a_1 3 ((σ_5.1 a_1 3) + (4:Int32))) (fun σ_10 => some σ_10)))))
set_option maxHeartbeats 4000000 in
theorem wc_X5_endAsk_0 (C : cl_C D p s m args meth c cX5_endAsk 3 none RX5) {a : Nat} {x1 : (Option Nat)} {x2 : Int32} {σ0 σ σ' : cl_S} {T : Nat → Nat × Nat} {H : Heap} {locs : List Loc} {ls : Array Slot} {cells slots : Nat} (h : bc_X5_endAsk_0 a x1 x2 σ = some σ') (G : cl_G true D c0 ({ frames := 0, cells := σ0.2.2.2.2.2.1, slots := σ0.2.2.2.2.2.2, locals := 0 }) s σ0.2.2.2.1 T σ H locs cells slots) (ha : (T a).1 = 21) (f1 : cl_RT T x1 18) (hl : lv_has ls 3 [(0, .ref (c0 + a)), (1, cl_rf c0 x1), (2, .int x2)]) : W p l e ({ frames := 0, cells := σ0.2.2.2.2.2.1, slots := σ0.2.2.2.2.2.2, locals := 0 }) s m args below meth c H locs cells slots (MQ below (cl_Q true D c0 none cl_no σ0 σ') args s (σ0.2.2.2.2.2.1 - σ'.2.2.2.2.2.1) (σ0.2.2.2.2.2.2 - σ'.2.2.2.2.2.2) (cl_A c0 σ0.2.2.2.1 s.heap.size)) (F0 m 0 ls []) := by
  unfold bc_X5_endAsk_0 at h
  refine lv_aload_n C.1 C.2.1 dX5_endAsk_0 rfl (lv_at hl 0 rfl) ?_
  refine cg_5_133 C G ha dX5_endAsk_1 ?_
  refine lv_if_eq (tgt := 24) C.1 C.2.1 dX5_endAsk_4 (by decide) (fun hc => ?_) (fun hc => ?_)
  · rw [if_pos hc] at h
    exact cl_vret ⟨rfl, rfl⟩ rfl C G h dX5_endAsk_24
  · rw [if_neg hc] at h
    refine cl_aload_n C.1 C.2.1 dX5_endAsk_7 rfl (lv_at hl 1 rfl) ?_
    obtain ⟨a_1, rfl, h_3⟩ := nn_some h
    have t_2 := f1 _ rfl
    refine cg_5_193 C G t_2 dX5_endAsk_8 (fun t_4 => ?_)
    refine lv_iconst (v := (1:Int32)) C.1 C.2.1 dX5_endAsk_11 (by decide) ?_
    refine lv_iload_n C.1 C.2.1 dX5_endAsk_12 rfl (lv_at hl 2 rfl) ?_
    obtain ⟨hi, h_6⟩ := ix_some h_3
    refine cl_iast C G t_4 hi dX5_endAsk_13 (fun H locs G_7 => ?_)
    refine cl_nm G_7 h_6 (fun σ_5 G_8 h_9 => ?_)
    refine lv_aload_n C.1 C.2.1 dX5_endAsk_14 rfl (lv_at hl 1 rfl) ?_
    refine lv_dup C.1 C.2.1 dX5_endAsk_15 rfl ?_
    refine cg_5_196 C G_8 t_2 dX5_endAsk_16 ?_
    refine lv_iconst (v := (4:Int32)) C.1 C.2.1 dX5_endAsk_19 (by decide) ?_
    refine lv_iadd C.1 C.2.1 dX5_endAsk_20 ?_
    refine cp_5_196 C G_8 t_2 dX5_endAsk_21 (fun H locs G_11 => ?_)
    refine cl_nm G_11 h_9 (fun σ_10 G_12 h_13 => ?_)
    exact cl_vret ⟨rfl, rfl⟩ rfl C G_12 h_13 dX5_endAsk_24
noncomputable def fc_X5_endAsk (a : Nat) (x1 : (Option Nat)) (x2 : Int32) (σ : cl_S) : Option (cl_S) := bc_X5_endAsk_0 a x1 x2 σ
theorem kc_X5_endAsk (l : Launch) (D : cl_D) (c0 : Nat) {a : Nat} {x1 : (Option Nat)} {x2 : Int32} {σ σ' : cl_S} (ha : (σ.2.2.2.1 a).1 = 21) (h : fc_X5_endAsk a x1 x2 σ = some σ') (f1 : cl_RT σ.2.2.2.1 x1 18) : cl_Met true l D c0 yX5_endAsk cX5_endAsk 3 none 0 0 [.ref (c0 + a), cl_rf c0 x1, .int x2] σ none cl_no σ' :=
  by cases x1 <;> exact cl_of (by decide) (Nat.le_of_ble_eq_true rfl) (fun p e s m args below meth c ls C hn G hl => wc_X5_endAsk_0 C h G ha f1 hl)
abbrev cX5_runTicks : ByteArray := prog_7_method_8_code
def yX5_runTicks : MethodName := ⟨RX5, "runTicks", "(I)I"⟩
theorem dX5_runTicks_0 : decode cX5_runTicks 0 = .ok (.iconst 0, 1) := by decide +kernel
theorem dX5_runTicks_1 : decode cX5_runTicks 1 = .ok (.istore_n 2, 1) := by decide +kernel
theorem dX5_runTicks_2 : decode cX5_runTicks 2 = .ok (.iconst 0, 1) := by decide +kernel
theorem dX5_runTicks_3 : decode cX5_runTicks 3 = .ok (.istore_n 3, 1) := by decide +kernel
theorem dX5_runTicks_4 : decode cX5_runTicks 4 = .ok (.iload_n 3, 1) := by decide +kernel
theorem dX5_runTicks_5 : decode cX5_runTicks 5 = .ok (.iload_n 1, 1) := by decide +kernel
theorem dX5_runTicks_6 : decode cX5_runTicks 6 = .ok (.if_icmp .ge 169, 3) := by decide +kernel
theorem dX5_runTicks_9 : decode cX5_runTicks 9 = .ok (.iload_n 2, 1) := by decide +kernel
theorem dX5_runTicks_10 : decode cX5_runTicks 10 = .ok (.iload_n 1, 1) := by decide +kernel
theorem dX5_runTicks_11 : decode cX5_runTicks 11 = .ok (.if_icmp .ge 164, 3) := by decide +kernel
theorem dX5_runTicks_14 : decode cX5_runTicks 14 = .ok (.aload_n 0, 1) := by decide +kernel
theorem dX5_runTicks_15 : decode cX5_runTicks 15 = .ok (.getfield 133, 3) := by decide +kernel
theorem dX5_runTicks_18 : decode cX5_runTicks 18 = .ok (.ifCond .eq 157, 3) := by decide +kernel
theorem dX5_runTicks_21 : decode cX5_runTicks 21 = .ok (.aload_n 0, 1) := by decide +kernel
theorem dX5_runTicks_22 : decode cX5_runTicks 22 = .ok (.getfield 12, 3) := by decide +kernel
theorem dX5_runTicks_25 : decode cX5_runTicks 25 = .ok (.getfield 164, 3) := by decide +kernel
theorem dX5_runTicks_28 : decode cX5_runTicks 28 = .ok (.aload_n 0, 1) := by decide +kernel
theorem dX5_runTicks_29 : decode cX5_runTicks 29 = .ok (.getfield 92, 3) := by decide +kernel
theorem dX5_runTicks_32 : decode cX5_runTicks 32 = .ok (.iaload, 1) := by decide +kernel
theorem dX5_runTicks_33 : decode cX5_runTicks 33 = .ok (.istore 4, 2) := by decide +kernel
theorem dX5_runTicks_35 : decode cX5_runTicks 35 = .ok (.iload 4, 2) := by decide +kernel
theorem dX5_runTicks_37 : decode cX5_runTicks 37 = .ok (.aload_n 0, 1) := by decide +kernel
theorem dX5_runTicks_38 : decode cX5_runTicks 38 = .ok (.getfield 12, 3) := by decide +kernel
theorem dX5_runTicks_41 : decode cX5_runTicks 41 = .ok (.getfield 66, 3) := by decide +kernel
theorem dX5_runTicks_44 : decode cX5_runTicks 44 = .ok (.if_icmp .ge 26, 3) := by decide +kernel
theorem dX5_runTicks_47 : decode cX5_runTicks 47 = .ok (.aload_n 0, 1) := by decide +kernel
theorem dX5_runTicks_48 : decode cX5_runTicks 48 = .ok (.getfield 98, 3) := by decide +kernel
theorem dX5_runTicks_51 : decode cX5_runTicks 51 = .ok (.ifCond .ne 19, 3) := by decide +kernel
theorem dX5_runTicks_54 : decode cX5_runTicks 54 = .ok (.aload_n 0, 1) := by decide +kernel
theorem dX5_runTicks_55 : decode cX5_runTicks 55 = .ok (.getfield 20, 3) := by decide +kernel
theorem dX5_runTicks_58 : decode cX5_runTicks 58 = .ok (.iload 4, 2) := by decide +kernel
theorem dX5_runTicks_60 : decode cX5_runTicks 60 = .ok (.aaload, 1) := by decide +kernel
theorem dX5_runTicks_61 : decode cX5_runTicks 61 = .ok (.getfield 121, 3) := by decide +kernel
theorem dX5_runTicks_64 : decode cX5_runTicks 64 = .ok (.getfield 125, 3) := by decide +kernel
theorem dX5_runTicks_67 : decode cX5_runTicks 67 = .ok (.ifCond .eq 36, 3) := by decide +kernel
theorem dX5_runTicks_70 : decode cX5_runTicks 70 = .ok (.iload_n 2, 1) := by decide +kernel
theorem dX5_runTicks_71 : decode cX5_runTicks 71 = .ok (.aload_n 0, 1) := by decide +kernel
theorem dX5_runTicks_72 : decode cX5_runTicks 72 = .ok (.iload_n 1, 1) := by decide +kernel
theorem dX5_runTicks_73 : decode cX5_runTicks 73 = .ok (.iload_n 2, 1) := by decide +kernel
theorem dX5_runTicks_74 : decode cX5_runTicks 74 = .ok (.isub, 1) := by decide +kernel
theorem dX5_runTicks_75 : decode cX5_runTicks 75 = .ok (.aload_n 0, 1) := by decide +kernel
theorem dX5_runTicks_76 : decode cX5_runTicks 76 = .ok (.getfield 12, 3) := by decide +kernel
theorem dX5_runTicks_79 : decode cX5_runTicks 79 = .ok (.getfield 167, 3) := by decide +kernel
theorem dX5_runTicks_82 : decode cX5_runTicks 82 = .ok (.aload_n 0, 1) := by decide +kernel
theorem dX5_runTicks_83 : decode cX5_runTicks 83 = .ok (.getfield 92, 3) := by decide +kernel
theorem dX5_runTicks_86 : decode cX5_runTicks 86 = .ok (.iaload, 1) := by decide +kernel
theorem dX5_runTicks_87 : decode cX5_runTicks 87 = .ok (.aload_n 0, 1) := by decide +kernel
theorem dX5_runTicks_88 : decode cX5_runTicks 88 = .ok (.getfield 95, 3) := by decide +kernel
theorem dX5_runTicks_91 : decode cX5_runTicks 91 = .ok (.isub, 1) := by decide +kernel
theorem dX5_runTicks_92 : decode cX5_runTicks 92 = .ok (.invokestatic 170, 3) := by decide +kernel
theorem dX5_runTicks_95 : decode cX5_runTicks 95 = .ok (.invokevirtual 175, 3) := by decide +kernel
theorem dX5_runTicks_98 : decode cX5_runTicks 98 = .ok (.iadd, 1) := by decide +kernel
theorem dX5_runTicks_99 : decode cX5_runTicks 99 = .ok (.istore_n 2, 1) := by decide +kernel
theorem dX5_runTicks_100 : decode cX5_runTicks 100 = .ok (.goto 69, 3) := by decide +kernel
theorem dX5_runTicks_103 : decode cX5_runTicks 103 = .ok (.aload_n 0, 1) := by decide +kernel
theorem dX5_runTicks_104 : decode cX5_runTicks 104 = .ok (.getfield 20, 3) := by decide +kernel
theorem dX5_runTicks_107 : decode cX5_runTicks 107 = .ok (.iload 4, 2) := by decide +kernel
theorem dX5_runTicks_109 : decode cX5_runTicks 109 = .ok (.aaload, 1) := by decide +kernel
theorem dX5_runTicks_110 : decode cX5_runTicks 110 = .ok (.getfield 121, 3) := by decide +kernel
theorem dX5_runTicks_113 : decode cX5_runTicks 113 = .ok (.invokevirtual 178, 3) := by decide +kernel
theorem dX5_runTicks_116 : decode cX5_runTicks 116 = .ok (.istore 5, 2) := by decide +kernel
theorem dX5_runTicks_118 : decode cX5_runTicks 118 = .ok (.iload 5, 2) := by decide +kernel
theorem dX5_runTicks_120 : decode cX5_runTicks 120 = .ok (.ifCond .lt 30, 3) := by decide +kernel
theorem dX5_runTicks_123 : decode cX5_runTicks 123 = .ok (.aload_n 0, 1) := by decide +kernel
theorem dX5_runTicks_124 : decode cX5_runTicks 124 = .ok (.aload_n 0, 1) := by decide +kernel
theorem dX5_runTicks_125 : decode cX5_runTicks 125 = .ok (.getfield 20, 3) := by decide +kernel
theorem dX5_runTicks_128 : decode cX5_runTicks 128 = .ok (.iload 4, 2) := by decide +kernel
theorem dX5_runTicks_130 : decode cX5_runTicks 130 = .ok (.aaload, 1) := by decide +kernel
theorem dX5_runTicks_131 : decode cX5_runTicks 131 = .ok (.getfield 121, 3) := by decide +kernel
theorem dX5_runTicks_134 : decode cX5_runTicks 134 = .ok (.aload_n 0, 1) := by decide +kernel
theorem dX5_runTicks_135 : decode cX5_runTicks 135 = .ok (.aload_n 0, 1) := by decide +kernel
theorem dX5_runTicks_136 : decode cX5_runTicks 136 = .ok (.getfield 20, 3) := by decide +kernel
theorem dX5_runTicks_139 : decode cX5_runTicks 139 = .ok (.iload 4, 2) := by decide +kernel
theorem dX5_runTicks_141 : decode cX5_runTicks 141 = .ok (.aaload, 1) := by decide +kernel
theorem dX5_runTicks_142 : decode cX5_runTicks 142 = .ok (.iload 5, 2) := by decide +kernel
theorem dX5_runTicks_144 : decode cX5_runTicks 144 = .ok (.invokevirtual 182, 3) := by decide +kernel
theorem dX5_runTicks_147 : decode cX5_runTicks 147 = .ok (.invokevirtual 186, 3) := by decide +kernel
theorem dX5_runTicks_150 : decode cX5_runTicks 150 = .ok (.iload_n 2, 1) := by decide +kernel
theorem dX5_runTicks_151 : decode cX5_runTicks 151 = .ok (.aload_n 0, 1) := by decide +kernel
theorem dX5_runTicks_152 : decode cX5_runTicks 152 = .ok (.getfield 133, 3) := by decide +kernel
theorem dX5_runTicks_155 : decode cX5_runTicks 155 = .ok (.ifCond .eq 11, 3) := by decide +kernel
theorem dX5_runTicks_158 : decode cX5_runTicks 158 = .ok (.aload_n 0, 1) := by decide +kernel
theorem dX5_runTicks_159 : decode cX5_runTicks 159 = .ok (.iconst 1, 1) := by decide +kernel
theorem dX5_runTicks_160 : decode cX5_runTicks 160 = .ok (.invokevirtual 175, 3) := by decide +kernel
theorem dX5_runTicks_163 : decode cX5_runTicks 163 = .ok (.goto 4, 3) := by decide +kernel
theorem dX5_runTicks_166 : decode cX5_runTicks 166 = .ok (.iconst 0, 1) := by decide +kernel
theorem dX5_runTicks_167 : decode cX5_runTicks 167 = .ok (.iadd, 1) := by decide +kernel
theorem dX5_runTicks_168 : decode cX5_runTicks 168 = .ok (.istore_n 2, 1) := by decide +kernel
theorem dX5_runTicks_169 : decode cX5_runTicks 169 = .ok (.iinc 3 1, 3) := by decide +kernel
theorem dX5_runTicks_172 : decode cX5_runTicks 172 = .ok (.goto (-168), 3) := by decide +kernel
theorem dX5_runTicks_175 : decode cX5_runTicks 175 = .ok (.iload_n 2, 1) := by decide +kernel
theorem dX5_runTicks_176 : decode cX5_runTicks 176 = .ok (.ireturn, 1) := by decide +kernel
theorem cc_X5_runTicks : Cond.code yX5_runTicks cX5_runTicks 6 (some .int) ∈ rf_tb := rf_at 1107 (by decide +kernel) (by decide +kernel)
theorem cw_RX5_175 : cl_wV RX5 RX5 yX5_pass cX5_pass 2 (some .int) 175 1 := ⟨⟨rf_at 1109 (by decide +kernel) (by decide +kernel), rf_at 1111 (by decide +kernel) (by decide +kernel), rf_sel (q := (yX5_pass, 20)) 35 (by decide +kernel) (by decide +kernel), cc_X5_pass, rf_at 13 (by decide +kernel) (by decide +kernel)⟩, ⟨by decide, by decide, by decide +kernel⟩⟩
theorem cw_RX5_178 : cl_wV RX5 RX2 yX2_step cX2_step 5 (some .int) 178 0 := ⟨⟨rf_at 1113 (by decide +kernel) (by decide +kernel), rf_at 1114 (by decide +kernel) (by decide +kernel), rf_at 1115 (by decide +kernel) (by decide +kernel), cc_X2_step, rf_at 16 (by decide +kernel) (by decide +kernel)⟩, ⟨by decide, by decide, by decide +kernel⟩⟩
theorem cw_RX5_182 : cl_wV RX5 RX5 yX5_answer cX5_answer 5 (some .int) 182 2 := ⟨⟨rf_at 1155 (by decide +kernel) (by decide +kernel), rf_at 1157 (by decide +kernel) (by decide +kernel), rf_sel (q := (yX5_answer, 20)) 41 (by decide +kernel) (by decide +kernel), cc_X5_answer, rf_at 13 (by decide +kernel) (by decide +kernel)⟩, ⟨by decide, by decide, by decide +kernel⟩⟩
theorem cw_RX5_186 : cl_wV RX5 RX5 yX5_endAsk cX5_endAsk 3 none 186 2 := ⟨⟨rf_at 1326 (by decide +kernel) (by decide +kernel), rf_at 1328 (by decide +kernel) (by decide +kernel), rf_sel (q := (yX5_endAsk, 20)) 65 (by decide +kernel) (by decide +kernel), cc_X5_endAsk, rf_at 13 (by decide +kernel) (by decide +kernel)⟩, ⟨by decide, by decide, by decide +kernel⟩⟩
theorem mw_RX5_170 : Cond.methodLink RX5 170 Lib.Math.min.name ∈ rf_tb := rf_at 1108 (by decide +kernel) (by decide +kernel)
noncomputable def bc_X5_runTicks_169i4 (a : Nat) (x1 : Int32) (x2 : Int32) (x3 : Int32) (σ : cl_S) : Option ((Int32 × Int32 × cl_S) ⊕ (Int32 × Int32 × cl_S)) := vl (x3 + (1:Int32)) (fun x3_40 => some (.inl (x2, x3_40, σ)))
set_option maxHeartbeats 4000000 in
theorem wc_X5_runTicks_169i4 (C : cl_C D p s m args meth c cX5_runTicks 6 (some .int) RX5) {r : Int32} {a : Nat} {x1 : Int32} {x2 : Int32} {x3 : Int32} {σ0 σ σ' : cl_S} {T : Nat → Nat × Nat} {H : Heap} {locs : List Loc} {ls : Array Slot} {cells slots : Nat} {o : (Int32 × Int32 × cl_S) ⊕ (Int32 × Int32 × cl_S)} (h : bc_X5_runTicks_169i4 a x1 x2 x3 σ = some o) (hP : Sum.elim (fun z : (Int32 × Int32 × cl_S) => ∀ (T : Nat → Nat × Nat) (H : Heap) (locs : List Loc) (ls : Array Slot) (cells slots : Nat), cl_G true D c0 ({ frames := 7, cells := σ0.2.2.2.2.2.1, slots := σ0.2.2.2.2.2.2, locals := 184 }) s σ0.2.2.2.1 T z.2.2 H locs cells slots → (T a).1 = 21 → lv_has ls 6 [(0, .ref (c0 + a)), (1, .int x1), (2, .int (z.1)), (3, .int (z.2.1))] → W p l e ({ frames := 7, cells := σ0.2.2.2.2.2.1, slots := σ0.2.2.2.2.2.2, locals := 184 }) s m args below meth c H locs cells slots (MQ below (cl_Q true D c0 (some (.int r)) cl_no σ0 σ') args s (σ0.2.2.2.2.2.1 - σ'.2.2.2.2.2.1) (σ0.2.2.2.2.2.2 - σ'.2.2.2.2.2.2) (cl_A c0 σ0.2.2.2.1 s.heap.size)) (F0 m 4 ls [])) (fun z : (Int32 × Int32 × cl_S) => ∀ (T : Nat → Nat × Nat) (H : Heap) (locs : List Loc) (ls : Array Slot) (cells slots : Nat), cl_G true D c0 ({ frames := 7, cells := σ0.2.2.2.2.2.1, slots := σ0.2.2.2.2.2.2, locals := 184 }) s σ0.2.2.2.1 T z.2.2 H locs cells slots → (T a).1 = 21 → lv_has ls 6 [(0, .ref (c0 + a)), (1, .int x1), (2, .int (z.1)), (3, .int (z.2.1))] → W p l e ({ frames := 7, cells := σ0.2.2.2.2.2.1, slots := σ0.2.2.2.2.2.2, locals := 184 }) s m args below meth c H locs cells slots (MQ below (cl_Q true D c0 (some (.int r)) cl_no σ0 σ') args s (σ0.2.2.2.2.2.1 - σ'.2.2.2.2.2.1) (σ0.2.2.2.2.2.2 - σ'.2.2.2.2.2.2) (cl_A c0 σ0.2.2.2.1 s.heap.size)) (F0 m 175 ls [])) o) (G : cl_G true D c0 ({ frames := 7, cells := σ0.2.2.2.2.2.1, slots := σ0.2.2.2.2.2.2, locals := 184 }) s σ0.2.2.2.1 T σ H locs cells slots) (ha : (T a).1 = 21) (hl : lv_has ls 6 [(0, .ref (c0 + a)), (1, .int x1), (2, .int x2), (3, .int x3)]) : W p l e ({ frames := 7, cells := σ0.2.2.2.2.2.1, slots := σ0.2.2.2.2.2.2, locals := 184 }) s m args below meth c H locs cells slots (MQ below (cl_Q true D c0 (some (.int r)) cl_no σ0 σ') args s (σ0.2.2.2.2.2.1 - σ'.2.2.2.2.2.1) (σ0.2.2.2.2.2.2 - σ'.2.2.2.2.2.2) (cl_A c0 σ0.2.2.2.1 s.heap.size)) (F0 m 169 ls []) := by
  unfold bc_X5_runTicks_169i4 at h
  refine vl_ex h (fun x3_40 ey h_41 => ?_)
  refine lv_iinc (v := x3_40) (lv' := [(3, .int x3_40), (0, .ref (c0 + a)), (1, .int x1), (2, .int x2)]) C.1 C.2.1 dX5_runTicks_169 hl (k := 3) rfl (by rw [ey]; rfl) (by decide) rfl (fun ls hl_42 => ?_)
  refine lv_goto (tgt := 4) C.1 C.2.1 dX5_runTicks_172 (by decide) ?_
  cases h_41
  exact hP _ _ _ _ _ _ G ha (lv_sub hl_42 [1, 2, 3, 0] rfl)
noncomputable def bc_X5_runTicks_70i4 (a : Nat) (x1 : Int32) (x2 : Int32) (x3 : Int32) (σ : cl_S) : Option ((Int32 × Int32 × cl_S) ⊕ (Int32 × Int32 × cl_S)) := vl (σ.2.2.1 a 3) (fun r_23 => nn r_23 (fun a_26 => ix (σ.1 a 10) 32 (bd2 (fc_X5_pass a (if ((σ.1 (a_26 + 9) (σ.1 a 10).toNatClampNeg) - (σ.1 a 11)) < (x1 - x2) then ((σ.1 (a_26 + 9) (σ.1 a 10).toNatClampNeg) - (σ.1 a 11)) else (x1 - x2)) σ) (fun r_32 σ_31 => vl (x2 + r_32) (fun x2_37 => bc_X5_runTicks_169i4 a x1 x2_37 x3 σ_31)))))
set_option maxHeartbeats 4000000 in
theorem wc_X5_runTicks_70i4 (C : cl_C D p s m args meth c cX5_runTicks 6 (some .int) RX5) {r : Int32} {a : Nat} {x1 : Int32} {x2 : Int32} {x3 : Int32} {σ0 σ σ' : cl_S} {T : Nat → Nat × Nat} {H : Heap} {locs : List Loc} {ls : Array Slot} {cells slots : Nat} {o : (Int32 × Int32 × cl_S) ⊕ (Int32 × Int32 × cl_S)} (h : bc_X5_runTicks_70i4 a x1 x2 x3 σ = some o) (hP : Sum.elim (fun z : (Int32 × Int32 × cl_S) => ∀ (T : Nat → Nat × Nat) (H : Heap) (locs : List Loc) (ls : Array Slot) (cells slots : Nat), cl_G true D c0 ({ frames := 7, cells := σ0.2.2.2.2.2.1, slots := σ0.2.2.2.2.2.2, locals := 184 }) s σ0.2.2.2.1 T z.2.2 H locs cells slots → (T a).1 = 21 → lv_has ls 6 [(0, .ref (c0 + a)), (1, .int x1), (2, .int (z.1)), (3, .int (z.2.1))] → W p l e ({ frames := 7, cells := σ0.2.2.2.2.2.1, slots := σ0.2.2.2.2.2.2, locals := 184 }) s m args below meth c H locs cells slots (MQ below (cl_Q true D c0 (some (.int r)) cl_no σ0 σ') args s (σ0.2.2.2.2.2.1 - σ'.2.2.2.2.2.1) (σ0.2.2.2.2.2.2 - σ'.2.2.2.2.2.2) (cl_A c0 σ0.2.2.2.1 s.heap.size)) (F0 m 4 ls [])) (fun z : (Int32 × Int32 × cl_S) => ∀ (T : Nat → Nat × Nat) (H : Heap) (locs : List Loc) (ls : Array Slot) (cells slots : Nat), cl_G true D c0 ({ frames := 7, cells := σ0.2.2.2.2.2.1, slots := σ0.2.2.2.2.2.2, locals := 184 }) s σ0.2.2.2.1 T z.2.2 H locs cells slots → (T a).1 = 21 → lv_has ls 6 [(0, .ref (c0 + a)), (1, .int x1), (2, .int (z.1)), (3, .int (z.2.1))] → W p l e ({ frames := 7, cells := σ0.2.2.2.2.2.1, slots := σ0.2.2.2.2.2.2, locals := 184 }) s m args below meth c H locs cells slots (MQ below (cl_Q true D c0 (some (.int r)) cl_no σ0 σ') args s (σ0.2.2.2.2.2.1 - σ'.2.2.2.2.2.1) (σ0.2.2.2.2.2.2 - σ'.2.2.2.2.2.2) (cl_A c0 σ0.2.2.2.1 s.heap.size)) (F0 m 175 ls [])) o) (G : cl_G true D c0 ({ frames := 7, cells := σ0.2.2.2.2.2.1, slots := σ0.2.2.2.2.2.2, locals := 184 }) s σ0.2.2.2.1 T σ H locs cells slots) (ha : (T a).1 = 21) (hl : lv_has ls 6 [(0, .ref (c0 + a)), (1, .int x1), (2, .int x2), (3, .int x3)]) : W p l e ({ frames := 7, cells := σ0.2.2.2.2.2.1, slots := σ0.2.2.2.2.2.2, locals := 184 }) s m args below meth c H locs cells slots (MQ below (cl_Q true D c0 (some (.int r)) cl_no σ0 σ') args s (σ0.2.2.2.2.2.1 - σ'.2.2.2.2.2.1) (σ0.2.2.2.2.2.2 - σ'.2.2.2.2.2.2) (cl_A c0 σ0.2.2.2.1 s.heap.size)) (F0 m 70 ls []) := by
  unfold bc_X5_runTicks_70i4 at h
  refine lv_iload_n C.1 C.2.1 dX5_runTicks_70 rfl (lv_at hl 2 rfl) ?_
  refine lv_aload_n C.1 C.2.1 dX5_runTicks_71 rfl (lv_at hl 0 rfl) ?_
  refine lv_iload_n C.1 C.2.1 dX5_runTicks_72 rfl (lv_at hl 1 rfl) ?_
  refine lv_iload_n C.1 C.2.1 dX5_runTicks_73 rfl (lv_at hl 2 rfl) ?_
  refine lv_isub C.1 C.2.1 dX5_runTicks_74 ?_
  refine lv_aload_n C.1 C.2.1 dX5_runTicks_75 rfl (lv_at hl 0 rfl) ?_
  refine cg_5_12 C G ha dX5_runTicks_76 (fun t_22 => ?_)
  refine vt_r (K := 17) t_22 h (fun r_23 t_24 h_25 => ?_)
  obtain ⟨a_26, rfl, h_28⟩ := nn_some h_25
  have t_27 := t_24 _ rfl
  refine cg_5_167 C G t_27 dX5_runTicks_79 (fun t_29 => ?_)
  refine lv_aload_n C.1 C.2.1 dX5_runTicks_82 rfl (lv_at hl 0 rfl) ?_
  refine cg_5_92 C G ha dX5_runTicks_83 ?_
  obtain ⟨hi, h_30⟩ := ix_some h_28
  refine cl_iald C G t_29 hi dX5_runTicks_86 ?_
  refine lv_aload_n C.1 C.2.1 dX5_runTicks_87 rfl (lv_at hl 0 rfl) ?_
  refine cg_5_95 C G ha dX5_runTicks_88 ?_
  refine lv_isub C.1 C.2.1 dX5_runTicks_91 ?_
  refine va_mmin C.1 C.2.1 (C.2.2.1.trans hl.1.symm) C.2.2.2.1 (C.2.2.2.2.1 _ mw_RX5_170) (C.2.2.2.2.1 _ mw_min_s) (C.2.2.2.2.1 _ mw_Math_i) (C.2.2.2.2.1 _ mw_min_c) (Nat.le_of_ble_eq_true rfl) (Nat.le_of_ble_eq_true rfl) (cl_le1 G) (cl_le2 G) dX5_runTicks_92 ?_
  obtain ⟨r_32, σ_31, hq, h_33⟩ := bd2_some h_30
  refine cl_callV (ci := 5) (rest := [.int x2]) C G rfl ha cw_RX5_175 [.int (if ((σ.1 (a_26 + 9) (σ.1 a 10).toNatClampNeg) - (σ.1 a 11)) < (x1 - x2) then ((σ.1 (a_26 + 9) (σ.1 a 10).toNatClampNeg) - (σ.1 a 11)) else (x1 - x2))] _ (kc_X5_pass l D c0 (by rw [G.1]; exact ha) hq) (Nat.le_of_ble_eq_true rfl) (Nat.le_of_ble_eq_true rfl) rfl rfl hl.1 (Nat.le_of_ble_eq_true rfl) dX5_runTicks_95 (fun T_34 H locs cells slots t_35 hu G_36 => ?_)
  have ha := hu.kind ha (by decide)
  refine W.eq (g2 := F0 m 98 ls [.int r_32, .int x2]) rfl ?_
  refine lv_iadd C.1 C.2.1 dX5_runTicks_98 ?_
  refine vt_i h_33 (fun x2_37 h_38 => ?_)
  refine lv_istore_n (lv' := [(2, .int x2_37), (0, .ref (c0 + a)), (1, .int x1), (3, .int x3)]) C.1 C.2.1 dX5_runTicks_99 rfl hl (by decide) rfl (fun ls hl_39 => ?_)
  refine lv_goto (tgt := 169) C.1 C.2.1 dX5_runTicks_100 (by decide) ?_
  exact wc_X5_runTicks_169i4 C h_38 hP G_36 ha (lv_sub hl_39 [1, 2, 0, 3] rfl)
noncomputable def bc_X5_runTicks_167i4 (a : Nat) (x1 : Int32) (x3 : Int32) (v0 : Int32) (v1 : Int32) (σ : cl_S) : Option ((Int32 × Int32 × cl_S) ⊕ (Int32 × Int32 × cl_S)) := vl (v0 + v1) (fun x2_70 => bc_X5_runTicks_169i4 a x1 x2_70 x3 σ)
set_option maxHeartbeats 4000000 in
theorem wc_X5_runTicks_167i4 (C : cl_C D p s m args meth c cX5_runTicks 6 (some .int) RX5) {r : Int32} {a : Nat} {x1 : Int32} {x3 : Int32} {v0 : Int32} {v1 : Int32} {σ0 σ σ' : cl_S} {T : Nat → Nat × Nat} {H : Heap} {locs : List Loc} {ls : Array Slot} {cells slots : Nat} {o : (Int32 × Int32 × cl_S) ⊕ (Int32 × Int32 × cl_S)} (h : bc_X5_runTicks_167i4 a x1 x3 v0 v1 σ = some o) (hP : Sum.elim (fun z : (Int32 × Int32 × cl_S) => ∀ (T : Nat → Nat × Nat) (H : Heap) (locs : List Loc) (ls : Array Slot) (cells slots : Nat), cl_G true D c0 ({ frames := 7, cells := σ0.2.2.2.2.2.1, slots := σ0.2.2.2.2.2.2, locals := 184 }) s σ0.2.2.2.1 T z.2.2 H locs cells slots → (T a).1 = 21 → lv_has ls 6 [(0, .ref (c0 + a)), (1, .int x1), (2, .int (z.1)), (3, .int (z.2.1))] → W p l e ({ frames := 7, cells := σ0.2.2.2.2.2.1, slots := σ0.2.2.2.2.2.2, locals := 184 }) s m args below meth c H locs cells slots (MQ below (cl_Q true D c0 (some (.int r)) cl_no σ0 σ') args s (σ0.2.2.2.2.2.1 - σ'.2.2.2.2.2.1) (σ0.2.2.2.2.2.2 - σ'.2.2.2.2.2.2) (cl_A c0 σ0.2.2.2.1 s.heap.size)) (F0 m 4 ls [])) (fun z : (Int32 × Int32 × cl_S) => ∀ (T : Nat → Nat × Nat) (H : Heap) (locs : List Loc) (ls : Array Slot) (cells slots : Nat), cl_G true D c0 ({ frames := 7, cells := σ0.2.2.2.2.2.1, slots := σ0.2.2.2.2.2.2, locals := 184 }) s σ0.2.2.2.1 T z.2.2 H locs cells slots → (T a).1 = 21 → lv_has ls 6 [(0, .ref (c0 + a)), (1, .int x1), (2, .int (z.1)), (3, .int (z.2.1))] → W p l e ({ frames := 7, cells := σ0.2.2.2.2.2.1, slots := σ0.2.2.2.2.2.2, locals := 184 }) s m args below meth c H locs cells slots (MQ below (cl_Q true D c0 (some (.int r)) cl_no σ0 σ') args s (σ0.2.2.2.2.2.1 - σ'.2.2.2.2.2.1) (σ0.2.2.2.2.2.2 - σ'.2.2.2.2.2.2) (cl_A c0 σ0.2.2.2.1 s.heap.size)) (F0 m 175 ls [])) o) (G : cl_G true D c0 ({ frames := 7, cells := σ0.2.2.2.2.2.1, slots := σ0.2.2.2.2.2.2, locals := 184 }) s σ0.2.2.2.1 T σ H locs cells slots) (ha : (T a).1 = 21) (hl : lv_has ls 6 [(0, .ref (c0 + a)), (1, .int x1), (3, .int x3)]) : W p l e ({ frames := 7, cells := σ0.2.2.2.2.2.1, slots := σ0.2.2.2.2.2.2, locals := 184 }) s m args below meth c H locs cells slots (MQ below (cl_Q true D c0 (some (.int r)) cl_no σ0 σ') args s (σ0.2.2.2.2.2.1 - σ'.2.2.2.2.2.1) (σ0.2.2.2.2.2.2 - σ'.2.2.2.2.2.2) (cl_A c0 σ0.2.2.2.1 s.heap.size)) (F0 m 167 ls [.int v1, .int v0]) := by
  unfold bc_X5_runTicks_167i4 at h
  refine lv_iadd C.1 C.2.1 dX5_runTicks_167 ?_
  refine vt_i h (fun x2_70 h_71 => ?_)
  refine lv_istore_n (lv' := [(2, .int x2_70), (0, .ref (c0 + a)), (1, .int x1), (3, .int x3)]) C.1 C.2.1 dX5_runTicks_168 rfl hl (by decide) rfl (fun ls hl_72 => ?_)
  exact wc_X5_runTicks_169i4 C h_71 hP G ha (lv_sub hl_72 [1, 2, 0, 3] rfl)
noncomputable def bc_X5_runTicks_150i4 (a : Nat) (x1 : Int32) (x2 : Int32) (x3 : Int32) (σ : cl_S) : Option ((Int32 × Int32 × cl_S) ⊕ (Int32 × Int32 × cl_S)) := (if (σ.1 a 8) = 0 then bc_X5_runTicks_167i4 a x1 x3 x2 (0:Int32) σ else bd2 (fc_X5_pass a (1:Int32) σ) (fun r_74 σ_73 => bc_X5_runTicks_167i4 a x1 x3 x2 r_74 σ_73))
set_option maxHeartbeats 4000000 in
theorem wc_X5_runTicks_150i4 (C : cl_C D p s m args meth c cX5_runTicks 6 (some .int) RX5) {r : Int32} {a : Nat} {x1 : Int32} {x2 : Int32} {x3 : Int32} {σ0 σ σ' : cl_S} {T : Nat → Nat × Nat} {H : Heap} {locs : List Loc} {ls : Array Slot} {cells slots : Nat} {o : (Int32 × Int32 × cl_S) ⊕ (Int32 × Int32 × cl_S)} (h : bc_X5_runTicks_150i4 a x1 x2 x3 σ = some o) (hP : Sum.elim (fun z : (Int32 × Int32 × cl_S) => ∀ (T : Nat → Nat × Nat) (H : Heap) (locs : List Loc) (ls : Array Slot) (cells slots : Nat), cl_G true D c0 ({ frames := 7, cells := σ0.2.2.2.2.2.1, slots := σ0.2.2.2.2.2.2, locals := 184 }) s σ0.2.2.2.1 T z.2.2 H locs cells slots → (T a).1 = 21 → lv_has ls 6 [(0, .ref (c0 + a)), (1, .int x1), (2, .int (z.1)), (3, .int (z.2.1))] → W p l e ({ frames := 7, cells := σ0.2.2.2.2.2.1, slots := σ0.2.2.2.2.2.2, locals := 184 }) s m args below meth c H locs cells slots (MQ below (cl_Q true D c0 (some (.int r)) cl_no σ0 σ') args s (σ0.2.2.2.2.2.1 - σ'.2.2.2.2.2.1) (σ0.2.2.2.2.2.2 - σ'.2.2.2.2.2.2) (cl_A c0 σ0.2.2.2.1 s.heap.size)) (F0 m 4 ls [])) (fun z : (Int32 × Int32 × cl_S) => ∀ (T : Nat → Nat × Nat) (H : Heap) (locs : List Loc) (ls : Array Slot) (cells slots : Nat), cl_G true D c0 ({ frames := 7, cells := σ0.2.2.2.2.2.1, slots := σ0.2.2.2.2.2.2, locals := 184 }) s σ0.2.2.2.1 T z.2.2 H locs cells slots → (T a).1 = 21 → lv_has ls 6 [(0, .ref (c0 + a)), (1, .int x1), (2, .int (z.1)), (3, .int (z.2.1))] → W p l e ({ frames := 7, cells := σ0.2.2.2.2.2.1, slots := σ0.2.2.2.2.2.2, locals := 184 }) s m args below meth c H locs cells slots (MQ below (cl_Q true D c0 (some (.int r)) cl_no σ0 σ') args s (σ0.2.2.2.2.2.1 - σ'.2.2.2.2.2.1) (σ0.2.2.2.2.2.2 - σ'.2.2.2.2.2.2) (cl_A c0 σ0.2.2.2.1 s.heap.size)) (F0 m 175 ls [])) o) (G : cl_G true D c0 ({ frames := 7, cells := σ0.2.2.2.2.2.1, slots := σ0.2.2.2.2.2.2, locals := 184 }) s σ0.2.2.2.1 T σ H locs cells slots) (ha : (T a).1 = 21) (hl : lv_has ls 6 [(0, .ref (c0 + a)), (1, .int x1), (2, .int x2), (3, .int x3)]) : W p l e ({ frames := 7, cells := σ0.2.2.2.2.2.1, slots := σ0.2.2.2.2.2.2, locals := 184 }) s m args below meth c H locs cells slots (MQ below (cl_Q true D c0 (some (.int r)) cl_no σ0 σ') args s (σ0.2.2.2.2.2.1 - σ'.2.2.2.2.2.1) (σ0.2.2.2.2.2.2 - σ'.2.2.2.2.2.2) (cl_A c0 σ0.2.2.2.1 s.heap.size)) (F0 m 150 ls []) := by
  unfold bc_X5_runTicks_150i4 at h
  refine lv_iload_n C.1 C.2.1 dX5_runTicks_150 rfl (lv_at hl 2 rfl) ?_
  refine lv_aload_n C.1 C.2.1 dX5_runTicks_151 rfl (lv_at hl 0 rfl) ?_
  refine cg_5_133 C G ha dX5_runTicks_152 ?_
  refine lv_if_eq (tgt := 166) C.1 C.2.1 dX5_runTicks_155 (by decide) (fun hc => ?_) (fun hc => ?_)
  · rw [if_pos hc] at h
    refine lv_iconst (v := (0:Int32)) C.1 C.2.1 dX5_runTicks_166 (by decide) ?_
    exact wc_X5_runTicks_167i4 C h hP G ha (lv_sub hl [0, 1, 3] rfl)
  · rw [if_neg hc] at h
    refine lv_aload_n C.1 C.2.1 dX5_runTicks_158 rfl (lv_at hl 0 rfl) ?_
    refine lv_iconst (v := (1:Int32)) C.1 C.2.1 dX5_runTicks_159 (by decide) ?_
    obtain ⟨r_74, σ_73, hq, h_75⟩ := bd2_some h
    refine cl_callV (ci := 5) (rest := [.int x2]) C G rfl ha cw_RX5_175 [.int (1:Int32)] _ (kc_X5_pass l D c0 (by rw [G.1]; exact ha) hq) (Nat.le_of_ble_eq_true rfl) (Nat.le_of_ble_eq_true rfl) rfl rfl hl.1 (Nat.le_of_ble_eq_true rfl) dX5_runTicks_160 (fun T_76 H locs cells slots t_77 hu G_78 => ?_)
    have ha := hu.kind ha (by decide)
    refine W.eq (g2 := F0 m 163 ls [.int r_74, .int x2]) rfl ?_
    refine lv_goto (tgt := 167) C.1 C.2.1 dX5_runTicks_163 (by decide) ?_
    exact wc_X5_runTicks_167i4 C h_75 hP G_78 ha (lv_sub hl [0, 1, 3] rfl)
noncomputable def lc_X5_runTicks_4 (a : Nat) (x1 : Int32) (x2 : Int32) (x3 : Int32) (σ : cl_S) : Option ((Int32 × Int32 × cl_S) ⊕ (Int32 × Int32 × cl_S)) := (if x1 ≤ x3 then some (.inr (x2, x3, σ)) else (if x1 ≤ x2 then some (.inr (x2, x3, σ)) else (if (σ.1 a 8) = 0 then some (.inr (x2, x3, σ)) else vl (σ.2.2.1 a 3) (fun r_4 => nn r_4 (fun a_7 => ix (σ.1 a 10) 32 (vl (σ.1 (a_7 + 8) (σ.1 a 10).toNatClampNeg) (fun x4_12 => vl (σ.2.2.1 a 3) (fun r_16 => nn r_16 (fun a_19 => (if (σ.1 a_19 0) ≤ x4_12 then bc_X5_runTicks_70i4 a x1 x2 x3 σ else (if (σ.1 a 12) = 0 then ix x4_12 8 (vl (σ.2.2.1 (a + 12 + cl_md a) x4_12.toNatClampNeg) (fun r_46 => nn r_46 (fun a_49 => (if (σ.1 (a_49 + 1) 7) = 0 then ix x4_12 8 (vl (σ.2.2.1 (a + 12 + cl_md a) x4_12.toNatClampNeg) (fun r_56 => nn r_56 (fun a_59 => bd2 (fc_X2_step (a_59 + 1) σ) (fun r_64 σ_63 => (if r_64 < 0 then bc_X5_runTicks_150i4 a x1 x2 x3 σ_63 else ix x4_12 8 (vl (σ_63.2.2.1 (a + 12 + cl_md a) x4_12.toNatClampNeg) (fun r_82 => nn r_82 (fun a_85 => ix x4_12 8 (vl (σ_63.2.2.1 (a + 12 + cl_md a) x4_12.toNatClampNeg) (fun r_92 => bd2 (fc_X5_answer a r_92 r_64 σ_63) (fun r_96 σ_95 => bd1 (fc_X5_endAsk a (some (a_85 + 1)) r_96 σ_95) (fun σ_101 => bc_X5_runTicks_150i4 a x1 x2 x3 σ_101)))))))))))) else bc_X5_runTicks_70i4 a x1 x2 x3 σ)))) else bc_X5_runTicks_70i4 a x1 x2 x3 σ)))))))))))
noncomputable def ec_X5_runTicks_4 (a : Nat) (x1 : Int32) (x2 : Int32) (x3 : Int32) (σ : cl_S) : Option (Int32 × cl_S) := some (x2, σ)
noncomputable def bc_X5_runTicks_4 (a : Nat) (x1 : Int32) (x2 : Int32) (x3 : Int32) (σ : cl_S) : Option (Int32 × cl_S) := (lp (fun z : (Int32 × Int32 × cl_S) => lc_X5_runTicks_4 a x1 z.1 z.2.1 z.2.2) (x2, x3, σ)).bind (fun z => ec_X5_runTicks_4 a x1 z.1 z.2.1 z.2.2)
set_option maxHeartbeats 4000000 in
theorem wc_X5_runTicks_4 (C : cl_C D p s m args meth c cX5_runTicks 6 (some .int) RX5) {r : Int32} {a : Nat} {x1 : Int32} {x2 : Int32} {x3 : Int32} {σ0 σ σ' : cl_S} {T : Nat → Nat × Nat} {H : Heap} {locs : List Loc} {ls : Array Slot} {cells slots : Nat} (h : bc_X5_runTicks_4 a x1 x2 x3 σ = some (r, σ')) (G : cl_G true D c0 ({ frames := 7, cells := σ0.2.2.2.2.2.1, slots := σ0.2.2.2.2.2.2, locals := 184 }) s σ0.2.2.2.1 T σ H locs cells slots) (ha : (T a).1 = 21) (hl : lv_has ls 6 [(0, .ref (c0 + a)), (1, .int x1), (2, .int x2), (3, .int x3)]) : W p l e ({ frames := 7, cells := σ0.2.2.2.2.2.1, slots := σ0.2.2.2.2.2.2, locals := 184 }) s m args below meth c H locs cells slots (MQ below (cl_Q true D c0 (some (.int r)) cl_no σ0 σ') args s (σ0.2.2.2.2.2.1 - σ'.2.2.2.2.2.1) (σ0.2.2.2.2.2.2 - σ'.2.2.2.2.2.2) (cl_A c0 σ0.2.2.2.1 s.heap.size)) (F0 m 4 ls []) := by
  unfold bc_X5_runTicks_4 at h
  obtain ⟨y, hy, h⟩ := bd_some h
  have hE : (fun z : (Int32 × Int32 × cl_S) => ∀ (T : Nat → Nat × Nat) (H : Heap) (locs : List Loc) (ls : Array Slot) (cells slots : Nat), cl_G true D c0 ({ frames := 7, cells := σ0.2.2.2.2.2.1, slots := σ0.2.2.2.2.2.2, locals := 184 }) s σ0.2.2.2.1 T z.2.2 H locs cells slots → (T a).1 = 21 → lv_has ls 6 [(0, .ref (c0 + a)), (1, .int x1), (2, .int (z.1)), (3, .int (z.2.1))] → W p l e ({ frames := 7, cells := σ0.2.2.2.2.2.1, slots := σ0.2.2.2.2.2.2, locals := 184 }) s m args below meth c H locs cells slots (MQ below (cl_Q true D c0 (some (.int r)) cl_no σ0 σ') args s (σ0.2.2.2.2.2.1 - σ'.2.2.2.2.2.1) (σ0.2.2.2.2.2.2 - σ'.2.2.2.2.2.2) (cl_A c0 σ0.2.2.2.1 s.heap.size)) (F0 m 175 ls [])) y := by
    clear hy G ha hl
    intro T H locs ls cells slots G ha hl
    obtain ⟨x2, x3, σ⟩ := y
    dsimp only at h G ha hl
    unfold ec_X5_runTicks_4 at h
    refine lv_iload_n C.1 C.2.1 dX5_runTicks_175 rfl (lv_at hl 2 rfl) ?_
    exact cl_iret ⟨rfl, rfl⟩ rfl C G h dX5_runTicks_176
  refine lp_recE (fun z : (Int32 × Int32 × cl_S) => ∀ (T : Nat → Nat × Nat) (H : Heap) (locs : List Loc) (ls : Array Slot) (cells slots : Nat), cl_G true D c0 ({ frames := 7, cells := σ0.2.2.2.2.2.1, slots := σ0.2.2.2.2.2.2, locals := 184 }) s σ0.2.2.2.1 T z.2.2 H locs cells slots → (T a).1 = 21 → lv_has ls 6 [(0, .ref (c0 + a)), (1, .int x1), (2, .int (z.1)), (3, .int (z.2.1))] → W p l e ({ frames := 7, cells := σ0.2.2.2.2.2.1, slots := σ0.2.2.2.2.2.2, locals := 184 }) s m args below meth c H locs cells slots (MQ below (cl_Q true D c0 (some (.int r)) cl_no σ0 σ') args s (σ0.2.2.2.2.2.1 - σ'.2.2.2.2.2.1) (σ0.2.2.2.2.2.2 - σ'.2.2.2.2.2.2) (cl_A c0 σ0.2.2.2.1 s.heap.size)) (F0 m 4 ls [])) (fun z : (Int32 × Int32 × cl_S) => ∀ (T : Nat → Nat × Nat) (H : Heap) (locs : List Loc) (ls : Array Slot) (cells slots : Nat), cl_G true D c0 ({ frames := 7, cells := σ0.2.2.2.2.2.1, slots := σ0.2.2.2.2.2.2, locals := 184 }) s σ0.2.2.2.1 T z.2.2 H locs cells slots → (T a).1 = 21 → lv_has ls 6 [(0, .ref (c0 + a)), (1, .int x1), (2, .int (z.1)), (3, .int (z.2.1))] → W p l e ({ frames := 7, cells := σ0.2.2.2.2.2.1, slots := σ0.2.2.2.2.2.2, locals := 184 }) s m args below meth c H locs cells slots (MQ below (cl_Q true D c0 (some (.int r)) cl_no σ0 σ') args s (σ0.2.2.2.2.2.1 - σ'.2.2.2.2.2.1) (σ0.2.2.2.2.2.2 - σ'.2.2.2.2.2.2) (cl_A c0 σ0.2.2.2.1 s.heap.size)) (F0 m 175 ls [])) ?_ _ _ hy hE _ _ _ _ _ _ G ha hl
  clear hE hy G ha hl h
  intro z o h hP T H locs ls cells slots G ha hl
  obtain ⟨x2, x3, σ⟩ := z
  dsimp only at h G ha hl
  unfold lc_X5_runTicks_4 at h
  refine lv_iload_n C.1 C.2.1 dX5_runTicks_4 rfl (lv_at hl 3 rfl) ?_
  refine lv_iload_n C.1 C.2.1 dX5_runTicks_5 rfl (lv_at hl 1 rfl) ?_
  refine lv_icmp_ge (tgt := 175) C.1 C.2.1 dX5_runTicks_6 (by decide) (fun hc => ?_) (fun hc => ?_)
  · rw [if_pos hc] at h
    cases h
    exact hP _ _ _ _ _ _ G ha (lv_sub hl [0, 1, 2, 3] rfl)
  · rw [if_neg hc] at h
    refine lv_iload_n C.1 C.2.1 dX5_runTicks_9 rfl (lv_at hl 2 rfl) ?_
    refine lv_iload_n C.1 C.2.1 dX5_runTicks_10 rfl (lv_at hl 1 rfl) ?_
    refine lv_icmp_ge (tgt := 175) C.1 C.2.1 dX5_runTicks_11 (by decide) (fun hc => ?_) (fun hc => ?_)
    · rw [if_pos hc] at h
      cases h
      exact hP _ _ _ _ _ _ G ha (lv_sub hl [0, 1, 2, 3] rfl)
    · rw [if_neg hc] at h
      refine lv_aload_n C.1 C.2.1 dX5_runTicks_14 rfl (lv_at hl 0 rfl) ?_
      refine cg_5_133 C G ha dX5_runTicks_15 ?_
      refine lv_if_eq (tgt := 175) C.1 C.2.1 dX5_runTicks_18 (by decide) (fun hc => ?_) (fun hc => ?_)
      · rw [if_pos hc] at h
        cases h
        exact hP _ _ _ _ _ _ G ha (lv_sub hl [0, 1, 2, 3] rfl)
      · rw [if_neg hc] at h
        refine lv_aload_n C.1 C.2.1 dX5_runTicks_21 rfl (lv_at hl 0 rfl) ?_
        refine cg_5_12 C G ha dX5_runTicks_22 (fun t_3 => ?_)
        refine vt_r (K := 17) t_3 h (fun r_4 t_5 h_6 => ?_)
        obtain ⟨a_7, rfl, h_9⟩ := nn_some h_6
        have t_8 := t_5 _ rfl
        refine cg_5_164 C G t_8 dX5_runTicks_25 (fun t_10 => ?_)
        refine lv_aload_n C.1 C.2.1 dX5_runTicks_28 rfl (lv_at hl 0 rfl) ?_
        refine cg_5_92 C G ha dX5_runTicks_29 ?_
        obtain ⟨hi, h_11⟩ := ix_some h_9
        refine cl_iald C G t_10 hi dX5_runTicks_32 ?_
        refine vt_i h_11 (fun x4_12 h_13 => ?_)
        refine lv_istore (lv' := [(4, .int x4_12), (0, .ref (c0 + a)), (1, .int x1), (2, .int x2), (3, .int x3)]) C.1 C.2.1 dX5_runTicks_33 hl (by decide) rfl (fun ls hl_14 => ?_)
        refine lv_iload C.1 C.2.1 dX5_runTicks_35 (lv_at hl_14 0 rfl) ?_
        refine lv_aload_n C.1 C.2.1 dX5_runTicks_37 rfl (lv_at hl_14 1 rfl) ?_
        refine cg_5_12 C G ha dX5_runTicks_38 (fun t_15 => ?_)
        refine vt_r (K := 17) t_15 h_13 (fun r_16 t_17 h_18 => ?_)
        obtain ⟨a_19, rfl, h_21⟩ := nn_some h_18
        have t_20 := t_17 _ rfl
        refine cg_5_66 C G t_20 dX5_runTicks_41 ?_
        refine lv_icmp_ge (tgt := 70) C.1 C.2.1 dX5_runTicks_44 (by decide) (fun hc => ?_) (fun hc => ?_)
        · rw [if_pos hc] at h_21
          exact wc_X5_runTicks_70i4 C h_21 hP G ha (lv_sub hl_14 [1, 2, 3, 4] rfl)
        · rw [if_neg hc] at h_21
          refine lv_aload_n C.1 C.2.1 dX5_runTicks_47 rfl (lv_at hl_14 1 rfl) ?_
          refine cg_5_98 C G ha dX5_runTicks_48 ?_
          refine lv_if_ne (tgt := 70) C.1 C.2.1 dX5_runTicks_51 (by decide) (fun hc => ?_) (fun hc => ?_)
          · rw [if_neg hc] at h_21
            exact wc_X5_runTicks_70i4 C h_21 hP G ha (lv_sub hl_14 [1, 2, 3, 4] rfl)
          · rw [if_pos hc] at h_21
            refine lv_aload_n C.1 C.2.1 dX5_runTicks_54 rfl (lv_at hl_14 1 rfl) ?_
            refine cg_5_20 C G ha dX5_runTicks_55 (fun t_43 => ?_)
            refine lv_iload C.1 C.2.1 dX5_runTicks_58 (lv_at hl_14 0 rfl) ?_
            obtain ⟨hi, h_44⟩ := ix_some h_21
            refine cl_aald C G t_43 (by decide) (by decide) rfl hi dX5_runTicks_60 (fun t_45 => ?_)
            refine vt_r (K := 22) t_45 h_44 (fun r_46 t_47 h_48 => ?_)
            obtain ⟨a_49, rfl, h_51⟩ := nn_some h_48
            have t_50 := t_47 _ rfl
            refine cg_5_121 C G t_50 dX5_runTicks_61 (fun t_52 => ?_)
            have t_52 : (T (a_49 + 1)).1 = 18 := by rw [t_52]
            refine cg_5_125 C G t_52 dX5_runTicks_64 ?_
            refine lv_if_eq (tgt := 103) C.1 C.2.1 dX5_runTicks_67 (by decide) (fun hc => ?_) (fun hc => ?_)
            · rw [if_pos hc] at h_51
              refine lv_aload_n C.1 C.2.1 dX5_runTicks_103 rfl (lv_at hl_14 1 rfl) ?_
              refine cg_5_20 C G ha dX5_runTicks_104 (fun t_53 => ?_)
              refine lv_iload C.1 C.2.1 dX5_runTicks_107 (lv_at hl_14 0 rfl) ?_
              obtain ⟨hi, h_54⟩ := ix_some h_51
              refine cl_aald C G t_53 (by decide) (by decide) rfl hi dX5_runTicks_109 (fun t_55 => ?_)
              refine vt_r (K := 22) t_55 h_54 (fun r_56 t_57 h_58 => ?_)
              obtain ⟨a_59, rfl, h_61⟩ := nn_some h_58
              have t_60 := t_57 _ rfl
              refine cg_5_121 C G t_60 dX5_runTicks_110 (fun t_62 => ?_)
              have t_62 : (T (a_59 + 1)).1 = 18 := by rw [t_62]
              obtain ⟨r_64, σ_63, hq, h_65⟩ := bd2_some h_61
              refine cl_callV (ci := 2) (rest := []) C G rfl t_62 cw_RX5_178 [] _ (kc_X2_step l D c0 (by rw [G.1]; exact t_62) hq) (Nat.le_of_ble_eq_true rfl) (Nat.le_of_ble_eq_true rfl) rfl rfl hl_14.1 (Nat.le_of_ble_eq_true rfl) dX5_runTicks_113 (fun T_66 H locs cells slots t_67 hu G_68 => ?_)
              have ha := hu.kind ha (by decide)
              refine W.eq (g2 := F0 m 116 ls [.int r_64]) rfl ?_
              refine lv_istore (lv' := [(5, .int r_64), (4, .int x4_12), (0, .ref (c0 + a)), (1, .int x1), (2, .int x2), (3, .int x3)]) C.1 C.2.1 dX5_runTicks_116 hl_14 (by decide) rfl (fun ls hl_69 => ?_)
              refine lv_iload C.1 C.2.1 dX5_runTicks_118 (lv_at hl_69 0 rfl) ?_
              refine lv_if_lt (tgt := 150) C.1 C.2.1 dX5_runTicks_120 (by decide) (fun hc => ?_) (fun hc => ?_)
              · rw [if_pos hc] at h_65
                exact wc_X5_runTicks_150i4 C h_65 hP G_68 ha (lv_sub hl_69 [2, 3, 4, 5] rfl)
              · rw [if_neg hc] at h_65
                refine lv_aload_n C.1 C.2.1 dX5_runTicks_123 rfl (lv_at hl_69 2 rfl) ?_
                refine lv_aload_n C.1 C.2.1 dX5_runTicks_124 rfl (lv_at hl_69 2 rfl) ?_
                refine cg_5_20 C G_68 ha dX5_runTicks_125 (fun t_79 => ?_)
                refine lv_iload C.1 C.2.1 dX5_runTicks_128 (lv_at hl_69 1 rfl) ?_
                obtain ⟨hi, h_80⟩ := ix_some h_65
                refine cl_aald C G_68 t_79 (by decide) (by decide) rfl hi dX5_runTicks_130 (fun t_81 => ?_)
                refine vt_r (K := 22) t_81 h_80 (fun r_82 t_83 h_84 => ?_)
                obtain ⟨a_85, rfl, h_87⟩ := nn_some h_84
                have t_86 := t_83 _ rfl
                refine cg_5_121 C G_68 t_86 dX5_runTicks_131 (fun t_88 => ?_)
                have t_88 : (T_66 (a_85 + 1)).1 = 18 := by rw [t_88]
                refine lv_aload_n C.1 C.2.1 dX5_runTicks_134 rfl (lv_at hl_69 2 rfl) ?_
                refine lv_aload_n C.1 C.2.1 dX5_runTicks_135 rfl (lv_at hl_69 2 rfl) ?_
                refine cg_5_20 C G_68 ha dX5_runTicks_136 (fun t_89 => ?_)
                refine lv_iload C.1 C.2.1 dX5_runTicks_139 (lv_at hl_69 1 rfl) ?_
                obtain ⟨hi, h_90⟩ := ix_some h_87
                refine cl_aald C G_68 t_89 (by decide) (by decide) rfl hi dX5_runTicks_141 (fun t_91 => ?_)
                refine vt_r (K := 22) t_91 h_90 (fun r_92 t_93 h_94 => ?_)
                refine lv_iload C.1 C.2.1 dX5_runTicks_142 (lv_at hl_69 0 rfl) ?_
                obtain ⟨r_96, σ_95, hq, h_97⟩ := bd2_some h_94
                refine cl_callV (ci := 5) (rest := [.ref (c0 + (a_85 + 1)), .ref (c0 + a)]) C G_68 rfl ha cw_RX5_182 [cl_rf c0 r_92, .int r_64] _ (kc_X5_answer l D c0 (by rw [G_68.1]; exact ha) hq (by rw [G_68.1]; exact t_93)) (Nat.le_of_ble_eq_true rfl) (Nat.le_of_ble_eq_true rfl) rfl rfl hl_69.1 (Nat.le_of_ble_eq_true rfl) dX5_runTicks_144 (fun T_98 H locs cells slots t_99 hu G_100 => ?_)
                have ha := hu.kind ha (by decide)
                have t_88 := hu.kind t_88 (by decide)
                refine W.eq (g2 := F0 m 147 ls [.int r_96, .ref (c0 + (a_85 + 1)), .ref (c0 + a)]) rfl ?_
                obtain ⟨σ_101, hq, h_102⟩ := bd1_some h_97
                refine cl_callV (ci := 5) (rest := []) C G_100 rfl ha cw_RX5_186 [.ref (c0 + (a_85 + 1)), .int r_96] _ (kc_X5_endAsk l D c0 (by rw [G_100.1]; exact ha) hq (by rw [G_100.1]; exact (cl_RTs t_88))) (Nat.le_of_ble_eq_true rfl) (Nat.le_of_ble_eq_true rfl) rfl rfl hl_69.1 (Nat.le_of_ble_eq_true rfl) dX5_runTicks_147 (fun T_103 H locs cells slots t_104 hu G_105 => ?_)
                have ha := hu.kind ha (by decide)
                refine W.eq (g2 := F0 m 150 ls []) rfl ?_
                exact wc_X5_runTicks_150i4 C h_102 hP G_105 ha (lv_sub hl_69 [2, 3, 4, 5] rfl)
            · rw [if_neg hc] at h_51
              exact wc_X5_runTicks_70i4 C h_51 hP G ha (lv_sub hl_14 [1, 2, 3, 4] rfl)
noncomputable def bc_X5_runTicks_0 (a : Nat) (x1 : Int32) (σ : cl_S) : Option (Int32 × cl_S) := bc_X5_runTicks_4 a x1 (0:Int32) (0:Int32) σ
set_option maxHeartbeats 4000000 in
theorem wc_X5_runTicks_0 (C : cl_C D p s m args meth c cX5_runTicks 6 (some .int) RX5) {r : Int32} {a : Nat} {x1 : Int32} {σ0 σ σ' : cl_S} {T : Nat → Nat × Nat} {H : Heap} {locs : List Loc} {ls : Array Slot} {cells slots : Nat} (h : bc_X5_runTicks_0 a x1 σ = some (r, σ')) (G : cl_G true D c0 ({ frames := 7, cells := σ0.2.2.2.2.2.1, slots := σ0.2.2.2.2.2.2, locals := 184 }) s σ0.2.2.2.1 T σ H locs cells slots) (ha : (T a).1 = 21) (hl : lv_has ls 6 [(0, .ref (c0 + a)), (1, .int x1)]) : W p l e ({ frames := 7, cells := σ0.2.2.2.2.2.1, slots := σ0.2.2.2.2.2.2, locals := 184 }) s m args below meth c H locs cells slots (MQ below (cl_Q true D c0 (some (.int r)) cl_no σ0 σ') args s (σ0.2.2.2.2.2.1 - σ'.2.2.2.2.2.1) (σ0.2.2.2.2.2.2 - σ'.2.2.2.2.2.2) (cl_A c0 σ0.2.2.2.1 s.heap.size)) (F0 m 0 ls []) := by
  unfold bc_X5_runTicks_0 at h
  refine lv_iconst (v := (0:Int32)) C.1 C.2.1 dX5_runTicks_0 (by decide) ?_
  refine lv_istore_n (lv' := [(2, .int (0:Int32)), (0, .ref (c0 + a)), (1, .int x1)]) C.1 C.2.1 dX5_runTicks_1 rfl hl (by decide) rfl (fun ls hl_1 => ?_)
  refine lv_iconst (v := (0:Int32)) C.1 C.2.1 dX5_runTicks_2 (by decide) ?_
  refine lv_istore_n (lv' := [(3, .int (0:Int32)), (2, .int (0:Int32)), (0, .ref (c0 + a)), (1, .int x1)]) C.1 C.2.1 dX5_runTicks_3 rfl hl_1 (by decide) rfl (fun ls hl_2 => ?_)
  exact wc_X5_runTicks_4 C h G ha (lv_sub hl_2 [2, 3, 1, 0] rfl)
noncomputable def fc_X5_runTicks (a : Nat) (x1 : Int32) (σ : cl_S) : Option (Int32 × cl_S) := bc_X5_runTicks_0 a x1 σ
theorem kc_X5_runTicks (l : Launch) (D : cl_D) (c0 : Nat) {r : Int32} {a : Nat} {x1 : Int32} {σ σ' : cl_S} (ha : (σ.2.2.2.1 a).1 = 21) (h : fc_X5_runTicks a x1 σ = some (r, σ')) : cl_Met true l D c0 yX5_runTicks cX5_runTicks 6 (some .int) 7 184 [.ref (c0 + a), .int x1] σ (some (.int r)) cl_no σ' :=
  cl_of (by decide) (Nat.le_of_ble_eq_true rfl) (fun p e s m args below meth c ls C hn G hl => wc_X5_runTicks_0 C h G ha hl)
abbrev cX6_waitWord : ByteArray := prog_8_method_4_code
def yX6_waitWord : MethodName := ⟨RX6, "waitWord", "(I)I"⟩
theorem dX6_waitWord_0 : decode cX6_waitWord 0 = .ok (.aload_n 0, 1) := by decide +kernel
theorem dX6_waitWord_1 : decode cX6_waitWord 1 = .ok (.getfield 79, 3) := by decide +kernel
theorem dX6_waitWord_4 : decode cX6_waitWord 4 = .ok (.bipush 64, 2) := by decide +kernel
theorem dX6_waitWord_6 : decode cX6_waitWord 6 = .ok (.if_icmp .lt 6, 3) := by decide +kernel
theorem dX6_waitWord_9 : decode cX6_waitWord 9 = .ok (.bipush (-4), 2) := by decide +kernel
theorem dX6_waitWord_11 : decode cX6_waitWord 11 = .ok (.ireturn, 1) := by decide +kernel
theorem dX6_waitWord_12 : decode cX6_waitWord 12 = .ok (.aload_n 0, 1) := by decide +kernel
theorem dX6_waitWord_13 : decode cX6_waitWord 13 = .ok (.getfield 28, 3) := by decide +kernel
theorem dX6_waitWord_16 : decode cX6_waitWord 16 = .ok (.aload_n 0, 1) := by decide +kernel
theorem dX6_waitWord_17 : decode cX6_waitWord 17 = .ok (.getfield 79, 3) := by decide +kernel
theorem dX6_waitWord_20 : decode cX6_waitWord 20 = .ok (.iload_n 1, 1) := by decide +kernel
theorem dX6_waitWord_21 : decode cX6_waitWord 21 = .ok (.iastore, 1) := by decide +kernel
theorem dX6_waitWord_22 : decode cX6_waitWord 22 = .ok (.aload_n 0, 1) := by decide +kernel
theorem dX6_waitWord_23 : decode cX6_waitWord 23 = .ok (.dup, 1) := by decide +kernel
theorem dX6_waitWord_24 : decode cX6_waitWord 24 = .ok (.getfield 79, 3) := by decide +kernel
theorem dX6_waitWord_27 : decode cX6_waitWord 27 = .ok (.iconst 1, 1) := by decide +kernel
theorem dX6_waitWord_28 : decode cX6_waitWord 28 = .ok (.iadd, 1) := by decide +kernel
theorem dX6_waitWord_29 : decode cX6_waitWord 29 = .ok (.putfield 79, 3) := by decide +kernel
theorem dX6_waitWord_32 : decode cX6_waitWord 32 = .ok (.aload_n 0, 1) := by decide +kernel
theorem dX6_waitWord_33 : decode cX6_waitWord 33 = .ok (.getfield 79, 3) := by decide +kernel
theorem dX6_waitWord_36 : decode cX6_waitWord 36 = .ok (.ireturn, 1) := by decide +kernel
theorem cc_X6_waitWord : Cond.code yX6_waitWord cX6_waitWord 2 (some .int) ∈ rf_tb := rf_at 1341 (by decide +kernel) (by decide +kernel)
noncomputable def bc_X6_waitWord_0 (a : Nat) (x1 : Int32) (σ : cl_S) : Option (Int32 × cl_S) := (if (σ.1 a 8) < (64:Int32) then ix (σ.1 a 8) 64 (vl (cl_w σ (a + 6) (σ.1 a 8).toNatClampNeg x1) (fun σ_2 => vl (cl_w σ_2 a 8 ((σ_2.1 a 8) + (1:Int32))) (fun σ_7 => some ((σ_7.1 a 8), σ_7)))) else some ((-4:Int32), σ))
set_option maxHeartbeats 4000000 in
theorem wc_X6_waitWord_0 (C : cl_C D p s m args meth c cX6_waitWord 2 (some .int) RX6) {r : Int32} {a : Nat} {x1 : Int32} {σ0 σ σ' : cl_S} {T : Nat → Nat × Nat} {H : Heap} {locs : List Loc} {ls : Array Slot} {cells slots : Nat} (h : bc_X6_waitWord_0 a x1 σ = some (r, σ')) (G : cl_G true D c0 ({ frames := 0, cells := σ0.2.2.2.2.2.1, slots := σ0.2.2.2.2.2.2, locals := 0 }) s σ0.2.2.2.1 T σ H locs cells slots) (ha : (T a).1 = 22) (hl : lv_has ls 2 [(0, .ref (c0 + a)), (1, .int x1)]) : W p l e ({ frames := 0, cells := σ0.2.2.2.2.2.1, slots := σ0.2.2.2.2.2.2, locals := 0 }) s m args below meth c H locs cells slots (MQ below (cl_Q true D c0 (some (.int r)) cl_no σ0 σ') args s (σ0.2.2.2.2.2.1 - σ'.2.2.2.2.2.1) (σ0.2.2.2.2.2.2 - σ'.2.2.2.2.2.2) (cl_A c0 σ0.2.2.2.1 s.heap.size)) (F0 m 0 ls []) := by
  unfold bc_X6_waitWord_0 at h
  refine lv_aload_n C.1 C.2.1 dX6_waitWord_0 rfl (lv_at hl 0 rfl) ?_
  refine cg_6_79 C G ha dX6_waitWord_1 ?_
  refine lv_bipush (v := (64:Int32)) C.1 C.2.1 dX6_waitWord_4 (by decide) ?_
  refine lv_icmp_lt (tgt := 12) C.1 C.2.1 dX6_waitWord_6 (by decide) (fun hc => ?_) (fun hc => ?_)
  · rw [if_pos hc] at h
    refine lv_aload_n C.1 C.2.1 dX6_waitWord_12 rfl (lv_at hl 0 rfl) ?_
    refine cg_6_28 C G ha dX6_waitWord_13 (fun t_1 => ?_)
    refine lv_aload_n C.1 C.2.1 dX6_waitWord_16 rfl (lv_at hl 0 rfl) ?_
    refine cg_6_79 C G ha dX6_waitWord_17 ?_
    refine lv_iload_n C.1 C.2.1 dX6_waitWord_20 rfl (lv_at hl 1 rfl) ?_
    obtain ⟨hi, h_3⟩ := ix_some h
    refine cl_iast C G t_1 hi dX6_waitWord_21 (fun H locs G_4 => ?_)
    refine cl_nm G_4 h_3 (fun σ_2 G_5 h_6 => ?_)
    refine lv_aload_n C.1 C.2.1 dX6_waitWord_22 rfl (lv_at hl 0 rfl) ?_
    refine lv_dup C.1 C.2.1 dX6_waitWord_23 rfl ?_
    refine cg_6_79 C G_5 ha dX6_waitWord_24 ?_
    refine lv_iconst (v := (1:Int32)) C.1 C.2.1 dX6_waitWord_27 (by decide) ?_
    refine lv_iadd C.1 C.2.1 dX6_waitWord_28 ?_
    refine cp_6_79 C G_5 ha dX6_waitWord_29 (fun H locs G_8 => ?_)
    refine cl_nm G_8 h_6 (fun σ_7 G_9 h_10 => ?_)
    refine lv_aload_n C.1 C.2.1 dX6_waitWord_32 rfl (lv_at hl 0 rfl) ?_
    refine cg_6_79 C G_9 ha dX6_waitWord_33 ?_
    exact cl_iret ⟨rfl, rfl⟩ rfl C G_9 h_10 dX6_waitWord_36
  · rw [if_neg hc] at h
    refine lv_bipush (v := (-4:Int32)) C.1 C.2.1 dX6_waitWord_9 (by decide) ?_
    exact cl_iret ⟨rfl, rfl⟩ rfl C G h dX6_waitWord_11
noncomputable def fc_X6_waitWord (a : Nat) (x1 : Int32) (σ : cl_S) : Option (Int32 × cl_S) := bc_X6_waitWord_0 a x1 σ
theorem kc_X6_waitWord (l : Launch) (D : cl_D) (c0 : Nat) {r : Int32} {a : Nat} {x1 : Int32} {σ σ' : cl_S} (ha : (σ.2.2.2.1 a).1 = 22) (h : fc_X6_waitWord a x1 σ = some (r, σ')) : cl_Met true l D c0 yX6_waitWord cX6_waitWord 2 (some .int) 0 0 [.ref (c0 + a), .int x1] σ (some (.int r)) cl_no σ' :=
  cl_of (by decide) (Nat.le_of_ble_eq_true rfl) (fun p e s m args below meth c ls C hn G hl => wc_X6_waitWord_0 C h G ha hl)
abbrev cX6_waitTerm : ByteArray := prog_8_method_5_code
def yX6_waitTerm : MethodName := ⟨RX6, "waitTerm", "(LPartHouse$Term;)I"⟩
theorem dX6_waitTerm_0 : decode cX6_waitTerm 0 = .ok (.aload_n 0, 1) := by decide +kernel
theorem dX6_waitTerm_1 : decode cX6_waitTerm 1 = .ok (.getfield 82, 3) := by decide +kernel
theorem dX6_waitTerm_4 : decode cX6_waitTerm 4 = .ok (.bipush 64, 2) := by decide +kernel
theorem dX6_waitTerm_6 : decode cX6_waitTerm 6 = .ok (.if_icmp .lt 6, 3) := by decide +kernel
theorem dX6_waitTerm_9 : decode cX6_waitTerm 9 = .ok (.bipush (-4), 2) := by decide +kernel
theorem dX6_waitTerm_11 : decode cX6_waitTerm 11 = .ok (.ireturn, 1) := by decide +kernel
theorem dX6_waitTerm_12 : decode cX6_waitTerm 12 = .ok (.aload_n 0, 1) := by decide +kernel
theorem dX6_waitTerm_13 : decode cX6_waitTerm 13 = .ok (.getfield 31, 3) := by decide +kernel
theorem dX6_waitTerm_16 : decode cX6_waitTerm 16 = .ok (.aload_n 0, 1) := by decide +kernel
theorem dX6_waitTerm_17 : decode cX6_waitTerm 17 = .ok (.getfield 82, 3) := by decide +kernel
theorem dX6_waitTerm_20 : decode cX6_waitTerm 20 = .ok (.aload_n 1, 1) := by decide +kernel
theorem dX6_waitTerm_21 : decode cX6_waitTerm 21 = .ok (.aastore, 1) := by decide +kernel
theorem dX6_waitTerm_22 : decode cX6_waitTerm 22 = .ok (.aload_n 0, 1) := by decide +kernel
theorem dX6_waitTerm_23 : decode cX6_waitTerm 23 = .ok (.dup, 1) := by decide +kernel
theorem dX6_waitTerm_24 : decode cX6_waitTerm 24 = .ok (.getfield 82, 3) := by decide +kernel
theorem dX6_waitTerm_27 : decode cX6_waitTerm 27 = .ok (.iconst 1, 1) := by decide +kernel
theorem dX6_waitTerm_28 : decode cX6_waitTerm 28 = .ok (.iadd, 1) := by decide +kernel
theorem dX6_waitTerm_29 : decode cX6_waitTerm 29 = .ok (.putfield 82, 3) := by decide +kernel
theorem dX6_waitTerm_32 : decode cX6_waitTerm 32 = .ok (.aload_n 0, 1) := by decide +kernel
theorem dX6_waitTerm_33 : decode cX6_waitTerm 33 = .ok (.getfield 82, 3) := by decide +kernel
theorem dX6_waitTerm_36 : decode cX6_waitTerm 36 = .ok (.ireturn, 1) := by decide +kernel
theorem cc_X6_waitTerm : Cond.code yX6_waitTerm cX6_waitTerm 2 (some .int) ∈ rf_tb := rf_at 1355 (by decide +kernel) (by decide +kernel)
noncomputable def bc_X6_waitTerm_0 (a : Nat) (x1 : (Option Nat)) (σ : cl_S) : Option (Int32 × cl_S) := (if (σ.1 a 10) < (64:Int32) then ix (σ.1 a 10) 64 (vl (cl_wr σ (a + 7) (σ.1 a 10).toNatClampNeg x1) (fun σ_2 => vl (cl_w σ_2 a 10 ((σ_2.1 a 10) + (1:Int32))) (fun σ_7 => some ((σ_7.1 a 10), σ_7)))) else some ((-4:Int32), σ))
set_option maxHeartbeats 4000000 in
theorem wc_X6_waitTerm_0 (C : cl_C D p s m args meth c cX6_waitTerm 2 (some .int) RX6) {r : Int32} {a : Nat} {x1 : (Option Nat)} {σ0 σ σ' : cl_S} {T : Nat → Nat × Nat} {H : Heap} {locs : List Loc} {ls : Array Slot} {cells slots : Nat} (h : bc_X6_waitTerm_0 a x1 σ = some (r, σ')) (G : cl_G true D c0 ({ frames := 0, cells := σ0.2.2.2.2.2.1, slots := σ0.2.2.2.2.2.2, locals := 0 }) s σ0.2.2.2.1 T σ H locs cells slots) (ha : (T a).1 = 22) (f1 : cl_RT T x1 25) (hl : lv_has ls 2 [(0, .ref (c0 + a)), (1, cl_rf c0 x1)]) : W p l e ({ frames := 0, cells := σ0.2.2.2.2.2.1, slots := σ0.2.2.2.2.2.2, locals := 0 }) s m args below meth c H locs cells slots (MQ below (cl_Q true D c0 (some (.int r)) cl_no σ0 σ') args s (σ0.2.2.2.2.2.1 - σ'.2.2.2.2.2.1) (σ0.2.2.2.2.2.2 - σ'.2.2.2.2.2.2) (cl_A c0 σ0.2.2.2.1 s.heap.size)) (F0 m 0 ls []) := by
  unfold bc_X6_waitTerm_0 at h
  refine lv_aload_n C.1 C.2.1 dX6_waitTerm_0 rfl (lv_at hl 0 rfl) ?_
  refine cg_6_82 C G ha dX6_waitTerm_1 ?_
  refine lv_bipush (v := (64:Int32)) C.1 C.2.1 dX6_waitTerm_4 (by decide) ?_
  refine lv_icmp_lt (tgt := 12) C.1 C.2.1 dX6_waitTerm_6 (by decide) (fun hc => ?_) (fun hc => ?_)
  · rw [if_pos hc] at h
    refine lv_aload_n C.1 C.2.1 dX6_waitTerm_12 rfl (lv_at hl 0 rfl) ?_
    refine cg_6_31 C G ha dX6_waitTerm_13 (fun t_1 => ?_)
    refine lv_aload_n C.1 C.2.1 dX6_waitTerm_16 rfl (lv_at hl 0 rfl) ?_
    refine cg_6_82 C G ha dX6_waitTerm_17 ?_
    refine cl_aload_n C.1 C.2.1 dX6_waitTerm_20 rfl (lv_at hl 1 rfl) ?_
    obtain ⟨hi, h_3⟩ := ix_some h
    refine cl_aast (ci := 9) (x := x1) C G rfl rfl rfl t_1 (by decide) (by decide) f1 hi dX6_waitTerm_21 (fun H locs G_4 => ?_)
    refine cl_nm G_4 h_3 (fun σ_2 G_5 h_6 => ?_)
    refine lv_aload_n C.1 C.2.1 dX6_waitTerm_22 rfl (lv_at hl 0 rfl) ?_
    refine lv_dup C.1 C.2.1 dX6_waitTerm_23 rfl ?_
    refine cg_6_82 C G_5 ha dX6_waitTerm_24 ?_
    refine lv_iconst (v := (1:Int32)) C.1 C.2.1 dX6_waitTerm_27 (by decide) ?_
    refine lv_iadd C.1 C.2.1 dX6_waitTerm_28 ?_
    refine cp_6_82 C G_5 ha dX6_waitTerm_29 (fun H locs G_8 => ?_)
    refine cl_nm G_8 h_6 (fun σ_7 G_9 h_10 => ?_)
    refine lv_aload_n C.1 C.2.1 dX6_waitTerm_32 rfl (lv_at hl 0 rfl) ?_
    refine cg_6_82 C G_9 ha dX6_waitTerm_33 ?_
    exact cl_iret ⟨rfl, rfl⟩ rfl C G_9 h_10 dX6_waitTerm_36
  · rw [if_neg hc] at h
    refine lv_bipush (v := (-4:Int32)) C.1 C.2.1 dX6_waitTerm_9 (by decide) ?_
    exact cl_iret ⟨rfl, rfl⟩ rfl C G h dX6_waitTerm_11
noncomputable def fc_X6_waitTerm (a : Nat) (x1 : (Option Nat)) (σ : cl_S) : Option (Int32 × cl_S) := bc_X6_waitTerm_0 a x1 σ
theorem kc_X6_waitTerm (l : Launch) (D : cl_D) (c0 : Nat) {r : Int32} {a : Nat} {x1 : (Option Nat)} {σ σ' : cl_S} (ha : (σ.2.2.2.1 a).1 = 22) (h : fc_X6_waitTerm a x1 σ = some (r, σ')) (f1 : cl_RT σ.2.2.2.1 x1 25) : cl_Met true l D c0 yX6_waitTerm cX6_waitTerm 2 (some .int) 0 0 [.ref (c0 + a), cl_rf c0 x1] σ (some (.int r)) cl_no σ' :=
  by cases x1 <;> exact cl_of (by decide) (Nat.le_of_ble_eq_true rfl) (fun p e s m args below meth c ls C hn G hl => wc_X6_waitTerm_0 C h G ha f1 hl)
abbrev cX5_repeatInput : ByteArray := prog_7_method_5_code
def yX5_repeatInput : MethodName := ⟨RX5, "repeatInput", "(LPartHouse$Machine;I)V"⟩
theorem dX5_repeatInput_0 : decode cX5_repeatInput 0 = .ok (.aload_n 0, 1) := by decide +kernel
theorem dX5_repeatInput_1 : decode cX5_repeatInput 1 = .ok (.getfield 20, 3) := by decide +kernel
theorem dX5_repeatInput_4 : decode cX5_repeatInput 4 = .ok (.aload_n 1, 1) := by decide +kernel
theorem dX5_repeatInput_5 : decode cX5_repeatInput 5 = .ok (.getfield 42, 3) := by decide +kernel
theorem dX5_repeatInput_8 : decode cX5_repeatInput 8 = .ok (.iload_n 2, 1) := by decide +kernel
theorem dX5_repeatInput_9 : decode cX5_repeatInput 9 = .ok (.iaload, 1) := by decide +kernel
theorem dX5_repeatInput_10 : decode cX5_repeatInput 10 = .ok (.aaload, 1) := by decide +kernel
theorem dX5_repeatInput_11 : decode cX5_repeatInput 11 = .ok (.astore_n 3, 1) := by decide +kernel
theorem dX5_repeatInput_12 : decode cX5_repeatInput 12 = .ok (.aload_n 1, 1) := by decide +kernel
theorem dX5_repeatInput_13 : decode cX5_repeatInput 13 = .ok (.getfield 48, 3) := by decide +kernel
theorem dX5_repeatInput_16 : decode cX5_repeatInput 16 = .ok (.iload_n 2, 1) := by decide +kernel
theorem dX5_repeatInput_17 : decode cX5_repeatInput 17 = .ok (.aaload, 1) := by decide +kernel
theorem dX5_repeatInput_18 : decode cX5_repeatInput 18 = .ok (.aload_n 0, 1) := by decide +kernel
theorem dX5_repeatInput_19 : decode cX5_repeatInput 19 = .ok (.getfield 51, 3) := by decide +kernel
theorem dX5_repeatInput_22 : decode cX5_repeatInput 22 = .ok (.getfield 83, 3) := by decide +kernel
theorem dX5_repeatInput_25 : decode cX5_repeatInput 25 = .ok (.if_acmp .ne 17, 3) := by decide +kernel
theorem dX5_repeatInput_28 : decode cX5_repeatInput 28 = .ok (.aload_n 3, 1) := by decide +kernel
theorem dX5_repeatInput_29 : decode cX5_repeatInput 29 = .ok (.aload_n 1, 1) := by decide +kernel
theorem dX5_repeatInput_30 : decode cX5_repeatInput 30 = .ok (.getfield 45, 3) := by decide +kernel
theorem dX5_repeatInput_33 : decode cX5_repeatInput 33 = .ok (.iload_n 2, 1) := by decide +kernel
theorem dX5_repeatInput_34 : decode cX5_repeatInput 34 = .ok (.iaload, 1) := by decide +kernel
theorem dX5_repeatInput_35 : decode cX5_repeatInput 35 = .ok (.invokevirtual 144, 3) := by decide +kernel
theorem dX5_repeatInput_38 : decode cX5_repeatInput 38 = .ok (.pop, 1) := by decide +kernel
theorem dX5_repeatInput_39 : decode cX5_repeatInput 39 = .ok (.goto 14, 3) := by decide +kernel
theorem dX5_repeatInput_42 : decode cX5_repeatInput 42 = .ok (.aload_n 3, 1) := by decide +kernel
theorem dX5_repeatInput_43 : decode cX5_repeatInput 43 = .ok (.aload_n 1, 1) := by decide +kernel
theorem dX5_repeatInput_44 : decode cX5_repeatInput 44 = .ok (.getfield 48, 3) := by decide +kernel
theorem dX5_repeatInput_47 : decode cX5_repeatInput 47 = .ok (.iload_n 2, 1) := by decide +kernel
theorem dX5_repeatInput_48 : decode cX5_repeatInput 48 = .ok (.aaload, 1) := by decide +kernel
theorem dX5_repeatInput_49 : decode cX5_repeatInput 49 = .ok (.invokevirtual 147, 3) := by decide +kernel
theorem dX5_repeatInput_52 : decode cX5_repeatInput 52 = .ok (.pop, 1) := by decide +kernel
theorem dX5_repeatInput_53 : decode cX5_repeatInput 53 = .ok (.return_, 1) := by decide +kernel
theorem cc_X5_repeatInput : Cond.code yX5_repeatInput cX5_repeatInput 4 none ∈ rf_tb := rf_at 1494 (by decide +kernel) (by decide +kernel)
theorem cw_RX5_144 : cl_wV RX5 RX6 yX6_waitWord cX6_waitWord 2 (some .int) 144 1 := ⟨⟨rf_at 1495 (by decide +kernel) (by decide +kernel), rf_at 1339 (by decide +kernel) (by decide +kernel), rf_at 1340 (by decide +kernel) (by decide +kernel), cc_X6_waitWord, rf_at 15 (by decide +kernel) (by decide +kernel)⟩, ⟨by decide, by decide, by decide +kernel⟩⟩
theorem cw_RX5_147 : cl_wV RX5 RX6 yX6_waitTerm cX6_waitTerm 2 (some .int) 147 1 := ⟨⟨rf_at 1496 (by decide +kernel) (by decide +kernel), rf_at 1353 (by decide +kernel) (by decide +kernel), rf_at 1354 (by decide +kernel) (by decide +kernel), cc_X6_waitTerm, rf_at 15 (by decide +kernel) (by decide +kernel)⟩, ⟨by decide, by decide, by decide +kernel⟩⟩
noncomputable def bc_X5_repeatInput_0 (a : Nat) (x1 : (Option Nat)) (x2 : Int32) (σ : cl_S) : Option (cl_S) := nn x1 (fun a_2 => ix x2 500 (ix (σ.1 (a_2 + 33 + cl_md a_2) x2.toNatClampNeg) 8 (vl (σ.2.2.1 (a + 12 + cl_md a) (σ.1 (a_2 + 33 + cl_md a_2) x2.toNatClampNeg).toNatClampNeg) (fun r_9 => ix x2 500 (vl (σ.2.2.1 (a_2 + 35 + cl_md a_2) x2.toNatClampNeg) (fun r_16 => (if r_16 = (some 33) then ix x2 500 (nn r_9 (fun a_38 => bd2 (fc_X6_waitWord a_38 (σ.1 (a_2 + 34 + cl_md a_2) x2.toNatClampNeg) σ) (fun r_42 σ_41 => some σ_41))) else ix x2 500 (vl (σ.2.2.1 (a_2 + 35 + cl_md a_2) x2.toNatClampNeg) (fun r_24 => nn r_9 (fun a_27 => bd2 (fc_X6_waitTerm a_27 r_24 σ) (fun r_31 σ_30 => some σ_30)))))))))))
set_option maxHeartbeats 4000000 in
theorem wc_X5_repeatInput_0 (C : cl_C D p s m args meth c cX5_repeatInput 4 none RX5) {a : Nat} {x1 : (Option Nat)} {x2 : Int32} {σ0 σ σ' : cl_S} {T : Nat → Nat × Nat} {H : Heap} {locs : List Loc} {ls : Array Slot} {cells slots : Nat} (h : bc_X5_repeatInput_0 a x1 x2 σ = some σ') (G : cl_G true D c0 ({ frames := 1, cells := σ0.2.2.2.2.2.1, slots := σ0.2.2.2.2.2.2, locals := 21 }) s σ0.2.2.2.1 T σ H locs cells slots) (ha : (T a).1 = 21) (f1 : cl_RT T x1 21) (hl : lv_has ls 4 [(0, .ref (c0 + a)), (1, cl_rf c0 x1), (2, .int x2)]) : W p l e ({ frames := 1, cells := σ0.2.2.2.2.2.1, slots := σ0.2.2.2.2.2.2, locals := 21 }) s m args below meth c H locs cells slots (MQ below (cl_Q true D c0 none cl_no σ0 σ') args s (σ0.2.2.2.2.2.1 - σ'.2.2.2.2.2.1) (σ0.2.2.2.2.2.2 - σ'.2.2.2.2.2.2) (cl_A c0 σ0.2.2.2.1 s.heap.size)) (F0 m 0 ls []) := by
  unfold bc_X5_repeatInput_0 at h
  refine lv_aload_n C.1 C.2.1 dX5_repeatInput_0 rfl (lv_at hl 0 rfl) ?_
  refine cg_5_20 C G ha dX5_repeatInput_1 (fun t_1 => ?_)
  refine cl_aload_n C.1 C.2.1 dX5_repeatInput_4 rfl (lv_at hl 1 rfl) ?_
  obtain ⟨a_2, rfl, h_4⟩ := nn_some h
  have t_3 := f1 _ rfl
  refine cg_5_42 C G t_3 dX5_repeatInput_5 (fun t_5 => ?_)
  refine lv_iload_n C.1 C.2.1 dX5_repeatInput_8 rfl (lv_at hl 2 rfl) ?_
  obtain ⟨hi, h_6⟩ := ix_some h_4
  refine cl_iald C G t_5 hi dX5_repeatInput_9 ?_
  obtain ⟨hi, h_7⟩ := ix_some h_6
  refine cl_aald C G t_1 (by decide) (by decide) rfl hi dX5_repeatInput_10 (fun t_8 => ?_)
  refine vt_r (K := 22) t_8 h_7 (fun r_9 t_10 h_11 => ?_)
  refine cl_astore_n (lv' := [(3, cl_rf c0 r_9), (0, .ref (c0 + a)), (1, .ref (c0 + a_2)), (2, .int x2)]) C.1 C.2.1 dX5_repeatInput_11 rfl hl (by decide) rfl (fun ls hl_12 => ?_)
  refine lv_aload_n C.1 C.2.1 dX5_repeatInput_12 rfl (lv_at hl_12 2 rfl) ?_
  refine cg_5_48 C G t_3 dX5_repeatInput_13 (fun t_13 => ?_)
  refine lv_iload_n C.1 C.2.1 dX5_repeatInput_16 rfl (lv_at hl_12 3 rfl) ?_
  obtain ⟨hi, h_14⟩ := ix_some h_11
  refine cl_aald C G t_13 (by decide) (by decide) rfl hi dX5_repeatInput_17 (fun t_15 => ?_)
  refine vt_r (K := 25) t_15 h_14 (fun r_16 t_17 h_18 => ?_)
  refine lv_aload_n C.1 C.2.1 dX5_repeatInput_18 rfl (lv_at hl_12 1 rfl) ?_
  refine cg_5_51 C G ha dX5_repeatInput_19 (fun t_19 => ?_)
  have t_19 : (T 31).1 = 26 := by rw [t_19]
  refine cg_5_83 C G t_19 dX5_repeatInput_22 (fun t_20 => ?_)
  have t_20 : (T 33).1 = 25 := by rw [t_20]
  refine cl_acmp_ne (rx := r_16) (ry := (some 33)) (tgt := 42) C.1 C.2.1 dX5_repeatInput_25 (by decide) (fun hc => ?_) (fun hc => ?_)
  · rw [if_neg hc] at h_18
    refine cl_aload_n C.1 C.2.1 dX5_repeatInput_42 rfl (lv_at hl_12 0 rfl) ?_
    refine lv_aload_n C.1 C.2.1 dX5_repeatInput_43 rfl (lv_at hl_12 2 rfl) ?_
    refine cg_5_48 C G t_3 dX5_repeatInput_44 (fun t_21 => ?_)
    refine lv_iload_n C.1 C.2.1 dX5_repeatInput_47 rfl (lv_at hl_12 3 rfl) ?_
    obtain ⟨hi, h_22⟩ := ix_some h_18
    refine cl_aald C G t_21 (by decide) (by decide) rfl hi dX5_repeatInput_48 (fun t_23 => ?_)
    refine vt_r (K := 25) t_23 h_22 (fun r_24 t_25 h_26 => ?_)
    obtain ⟨a_27, rfl, h_29⟩ := nn_some h_26
    have t_28 := t_10 _ rfl
    obtain ⟨r_31, σ_30, hq, h_32⟩ := bd2_some h_29
    refine cl_callV (ci := 6) (rest := []) C G rfl t_28 cw_RX5_147 [cl_rf c0 r_24] _ (kc_X6_waitTerm l D c0 (by rw [G.1]; exact t_28) hq (by rw [G.1]; exact t_25)) (Nat.le_of_ble_eq_true rfl) (Nat.le_of_ble_eq_true rfl) rfl rfl hl_12.1 (Nat.le_of_ble_eq_true rfl) dX5_repeatInput_49 (fun T_33 H locs cells slots t_34 hu G_35 => ?_)
    have t_28 := hu.kind t_28 (by decide)
    have ha := hu.kind ha (by decide)
    have t_3 := hu.kind t_3 (by decide)
    refine W.eq (g2 := F0 m 52 ls [.int r_31]) rfl ?_
    refine lv_pop C.1 C.2.1 dX5_repeatInput_52 rfl ?_
    exact cl_vret ⟨rfl, rfl⟩ rfl C G_35 h_32 dX5_repeatInput_53
  · rw [if_pos hc] at h_18
    refine cl_aload_n C.1 C.2.1 dX5_repeatInput_28 rfl (lv_at hl_12 0 rfl) ?_
    refine lv_aload_n C.1 C.2.1 dX5_repeatInput_29 rfl (lv_at hl_12 2 rfl) ?_
    refine cg_5_45 C G t_3 dX5_repeatInput_30 (fun t_36 => ?_)
    refine lv_iload_n C.1 C.2.1 dX5_repeatInput_33 rfl (lv_at hl_12 3 rfl) ?_
    obtain ⟨hi, h_37⟩ := ix_some h_18
    refine cl_iald C G t_36 hi dX5_repeatInput_34 ?_
    obtain ⟨a_38, rfl, h_40⟩ := nn_some h_37
    have t_39 := t_10 _ rfl
    obtain ⟨r_42, σ_41, hq, h_43⟩ := bd2_some h_40
    refine cl_callV (ci := 6) (rest := []) C G rfl t_39 cw_RX5_144 [.int (σ.1 (a_2 + 34 + cl_md a_2) x2.toNatClampNeg)] _ (kc_X6_waitWord l D c0 (by rw [G.1]; exact t_39) hq) (Nat.le_of_ble_eq_true rfl) (Nat.le_of_ble_eq_true rfl) rfl rfl hl_12.1 (Nat.le_of_ble_eq_true rfl) dX5_repeatInput_35 (fun T_44 H locs cells slots t_45 hu G_46 => ?_)
    have t_39 := hu.kind t_39 (by decide)
    have ha := hu.kind ha (by decide)
    have t_3 := hu.kind t_3 (by decide)
    refine W.eq (g2 := F0 m 38 ls [.int r_42]) rfl ?_
    refine lv_pop C.1 C.2.1 dX5_repeatInput_38 rfl ?_
    refine lv_goto (tgt := 53) C.1 C.2.1 dX5_repeatInput_39 (by decide) ?_
    exact cl_vret ⟨rfl, rfl⟩ rfl C G_46 h_43 dX5_repeatInput_53
noncomputable def fc_X5_repeatInput (a : Nat) (x1 : (Option Nat)) (x2 : Int32) (σ : cl_S) : Option (cl_S) := bc_X5_repeatInput_0 a x1 x2 σ
theorem kc_X5_repeatInput (l : Launch) (D : cl_D) (c0 : Nat) {a : Nat} {x1 : (Option Nat)} {x2 : Int32} {σ σ' : cl_S} (ha : (σ.2.2.2.1 a).1 = 21) (h : fc_X5_repeatInput a x1 x2 σ = some σ') (f1 : cl_RT σ.2.2.2.1 x1 21) : cl_Met true l D c0 yX5_repeatInput cX5_repeatInput 4 none 1 21 [.ref (c0 + a), cl_rf c0 x1, .int x2] σ none cl_no σ' :=
  by cases x1 <;> exact cl_of (by decide) (Nat.le_of_ble_eq_true rfl) (fun p e s m args below meth c ls C hn G hl => wc_X5_repeatInput_0 C h G ha f1 hl)
end CQ10
