section RQ13
variable {p : Program} {l : Launch} {e : Env} {s : State} {m : MethodId} {args : Array Value} {below : List Frame} {meth : Method} {c : Code} {D : rf_D} {h0 : Nat}
abbrev cX12_step : ByteArray := prog_14_method_71_code
def yX12_step : MethodName := ⟨RX12, "step", "(I)V"⟩
theorem dX12_step_0 : decode cX12_step 0 = .ok (.aload_n 0, 1) := by decide +kernel
theorem dX12_step_1 : decode cX12_step 1 = .ok (.iload_n 1, 1) := by decide +kernel
theorem dX12_step_2 : decode cX12_step 2 = .ok (.putfield 567, 3) := by decide +kernel
theorem dX12_step_5 : decode cX12_step 5 = .ok (.aload_n 0, 1) := by decide +kernel
theorem dX12_step_6 : decode cX12_step 6 = .ok (.bipush 8, 2) := by decide +kernel
theorem dX12_step_8 : decode cX12_step 8 = .ok (.aload_n 0, 1) := by decide +kernel
theorem dX12_step_9 : decode cX12_step 9 = .ok (.getfield 525, 3) := by decide +kernel
theorem dX12_step_12 : decode cX12_step 12 = .ok (.imul, 1) := by decide +kernel
theorem dX12_step_13 : decode cX12_step 13 = .ok (.iload_n 1, 1) := by decide +kernel
theorem dX12_step_14 : decode cX12_step 14 = .ok (.iadd, 1) := by decide +kernel
theorem dX12_step_15 : decode cX12_step 15 = .ok (.putfield 563, 3) := by decide +kernel
theorem dX12_step_18 : decode cX12_step 18 = .ok (.aload_n 0, 1) := by decide +kernel
theorem dX12_step_19 : decode cX12_step 19 = .ok (.sipush 8192, 3) := by decide +kernel
theorem dX12_step_22 : decode cX12_step 22 = .ok (.aload_n 0, 1) := by decide +kernel
theorem dX12_step_23 : decode cX12_step 23 = .ok (.getfield 525, 3) := by decide +kernel
theorem dX12_step_26 : decode cX12_step 26 = .ok (.imul, 1) := by decide +kernel
theorem dX12_step_27 : decode cX12_step 27 = .ok (.aload_n 0, 1) := by decide +kernel
theorem dX12_step_28 : decode cX12_step 28 = .ok (.getfield 107, 3) := by decide +kernel
theorem dX12_step_31 : decode cX12_step 31 = .ok (.iload_n 1, 1) := by decide +kernel
theorem dX12_step_32 : decode cX12_step 32 = .ok (.iaload, 1) := by decide +kernel
theorem dX12_step_33 : decode cX12_step 33 = .ok (.iadd, 1) := by decide +kernel
theorem dX12_step_34 : decode cX12_step 34 = .ok (.putfield 570, 3) := by decide +kernel
theorem dX12_step_37 : decode cX12_step 37 = .ok (.aload_n 0, 1) := by decide +kernel
theorem dX12_step_38 : decode cX12_step 38 = .ok (.getfield 185, 3) := by decide +kernel
theorem dX12_step_41 : decode cX12_step 41 = .ok (.aload_n 0, 1) := by decide +kernel
theorem dX12_step_42 : decode cX12_step 42 = .ok (.getfield 563, 3) := by decide +kernel
theorem dX12_step_45 : decode cX12_step 45 = .ok (.iaload, 1) := by decide +kernel
theorem dX12_step_46 : decode cX12_step 46 = .ok (.istore_n 2, 1) := by decide +kernel
theorem dX12_step_47 : decode cX12_step 47 = .ok (.iload_n 2, 1) := by decide +kernel
theorem dX12_step_48 : decode cX12_step 48 = .ok (.ifCond .lt 21, 3) := by decide +kernel
theorem dX12_step_51 : decode cX12_step 51 = .ok (.iload_n 2, 1) := by decide +kernel
theorem dX12_step_52 : decode cX12_step 52 = .ok (.iconst 4, 1) := by decide +kernel
theorem dX12_step_53 : decode cX12_step 53 = .ok (.aload_n 0, 1) := by decide +kernel
theorem dX12_step_54 : decode cX12_step 54 = .ok (.getfield 110, 3) := by decide +kernel
theorem dX12_step_57 : decode cX12_step 57 = .ok (.iload_n 1, 1) := by decide +kernel
theorem dX12_step_58 : decode cX12_step 58 = .ok (.iaload, 1) := by decide +kernel
theorem dX12_step_59 : decode cX12_step 59 = .ok (.imul, 1) := by decide +kernel
theorem dX12_step_60 : decode cX12_step 60 = .ok (.if_icmp .ge 9, 3) := by decide +kernel
theorem dX12_step_63 : decode cX12_step 63 = .ok (.iload_n 2, 1) := by decide +kernel
theorem dX12_step_64 : decode cX12_step 64 = .ok (.iconst 4, 1) := by decide +kernel
theorem dX12_step_65 : decode cX12_step 65 = .ok (.irem, 1) := by decide +kernel
theorem dX12_step_66 : decode cX12_step 66 = .ok (.ifCond .eq 9, 3) := by decide +kernel
theorem dX12_step_69 : decode cX12_step 69 = .ok (.aload_n 0, 1) := by decide +kernel
theorem dX12_step_70 : decode cX12_step 70 = .ok (.iconst 4, 1) := by decide +kernel
theorem dX12_step_71 : decode cX12_step 71 = .ok (.invokevirtual 573, 3) := by decide +kernel
theorem dX12_step_74 : decode cX12_step 74 = .ok (.return_, 1) := by decide +kernel
theorem dX12_step_75 : decode cX12_step 75 = .ok (.aload_n 0, 1) := by decide +kernel
theorem dX12_step_76 : decode cX12_step 76 = .ok (.getfield 179, 3) := by decide +kernel
theorem dX12_step_79 : decode cX12_step 79 = .ok (.aload_n 0, 1) := by decide +kernel
theorem dX12_step_80 : decode cX12_step 80 = .ok (.getfield 570, 3) := by decide +kernel
theorem dX12_step_83 : decode cX12_step 83 = .ok (.iload_n 2, 1) := by decide +kernel
theorem dX12_step_84 : decode cX12_step 84 = .ok (.iconst 4, 1) := by decide +kernel
theorem dX12_step_85 : decode cX12_step 85 = .ok (.idiv, 1) := by decide +kernel
theorem dX12_step_86 : decode cX12_step 86 = .ok (.iadd, 1) := by decide +kernel
theorem dX12_step_87 : decode cX12_step 87 = .ok (.iaload, 1) := by decide +kernel
theorem dX12_step_88 : decode cX12_step 88 = .ok (.istore_n 3, 1) := by decide +kernel
theorem dX12_step_89 : decode cX12_step 89 = .ok (.iload_n 3, 1) := by decide +kernel
theorem dX12_step_90 : decode cX12_step 90 = .ok (.bipush 26, 2) := by decide +kernel
theorem dX12_step_92 : decode cX12_step 92 = .ok (.iushr, 1) := by decide +kernel
theorem dX12_step_93 : decode cX12_step 93 = .ok (.istore 4, 2) := by decide +kernel
theorem dX12_step_95 : decode cX12_step 95 = .ok (.iload_n 3, 1) := by decide +kernel
theorem dX12_step_96 : decode cX12_step 96 = .ok (.bipush 22, 2) := by decide +kernel
theorem dX12_step_98 : decode cX12_step 98 = .ok (.iushr, 1) := by decide +kernel
theorem dX12_step_99 : decode cX12_step 99 = .ok (.bipush 15, 2) := by decide +kernel
theorem dX12_step_101 : decode cX12_step 101 = .ok (.iand, 1) := by decide +kernel
theorem dX12_step_102 : decode cX12_step 102 = .ok (.istore 5, 2) := by decide +kernel
theorem dX12_step_104 : decode cX12_step 104 = .ok (.iload_n 3, 1) := by decide +kernel
theorem dX12_step_105 : decode cX12_step 105 = .ok (.bipush 18, 2) := by decide +kernel
theorem dX12_step_107 : decode cX12_step 107 = .ok (.iushr, 1) := by decide +kernel
theorem dX12_step_108 : decode cX12_step 108 = .ok (.bipush 15, 2) := by decide +kernel
theorem dX12_step_110 : decode cX12_step 110 = .ok (.iand, 1) := by decide +kernel
theorem dX12_step_111 : decode cX12_step 111 = .ok (.istore 6, 2) := by decide +kernel
theorem dX12_step_113 : decode cX12_step 113 = .ok (.iload_n 3, 1) := by decide +kernel
theorem dX12_step_114 : decode cX12_step 114 = .ok (.invokestatic 474, 3) := by decide +kernel
theorem dX12_step_117 : decode cX12_step 117 = .ok (.istore 7, 2) := by decide +kernel
theorem dX12_step_119 : decode cX12_step 119 = .ok (.aload_n 0, 1) := by decide +kernel
theorem dX12_step_120 : decode cX12_step 120 = .ok (.iload_n 2, 1) := by decide +kernel
theorem dX12_step_121 : decode cX12_step 121 = .ok (.iconst 4, 1) := by decide +kernel
theorem dX12_step_122 : decode cX12_step 122 = .ok (.iadd, 1) := by decide +kernel
theorem dX12_step_123 : decode cX12_step 123 = .ok (.putfield 576, 3) := by decide +kernel
theorem dX12_step_126 : decode cX12_step 126 = .ok (.iload 4, 2) := by decide +kernel
theorem dX12_step_128 : decode cX12_step 128 = .ok (.iconst 1, 1) := by decide +kernel
theorem dX12_step_129 : decode cX12_step 129 = .ok (.if_icmp .lt 48, 3) := by decide +kernel
theorem dX12_step_132 : decode cX12_step 132 = .ok (.iload 4, 2) := by decide +kernel
theorem dX12_step_134 : decode cX12_step 134 = .ok (.bipush 39, 2) := by decide +kernel
theorem dX12_step_136 : decode cX12_step 136 = .ok (.if_icmp .gt 41, 3) := by decide +kernel
theorem dX12_step_139 : decode cX12_step 139 = .ok (.iload 4, 2) := by decide +kernel
theorem dX12_step_141 : decode cX12_step 141 = .ok (.bipush 39, 2) := by decide +kernel
theorem dX12_step_143 : decode cX12_step 143 = .ok (.if_icmp .ne 15, 3) := by decide +kernel
theorem dX12_step_146 : decode cX12_step 146 = .ok (.aload_n 0, 1) := by decide +kernel
theorem dX12_step_147 : decode cX12_step 147 = .ok (.getfield 200, 3) := by decide +kernel
theorem dX12_step_150 : decode cX12_step 150 = .ok (.aload_n 0, 1) := by decide +kernel
theorem dX12_step_151 : decode cX12_step 151 = .ok (.getfield 563, 3) := by decide +kernel
theorem dX12_step_154 : decode cX12_step 154 = .ok (.baload, 1) := by decide +kernel
theorem dX12_step_155 : decode cX12_step 155 = .ok (.ifCond .eq 22, 3) := by decide +kernel
theorem dX12_step_158 : decode cX12_step 158 = .ok (.iload 4, 2) := by decide +kernel
theorem dX12_step_160 : decode cX12_step 160 = .ok (.bipush 38, 2) := by decide +kernel
theorem dX12_step_162 : decode cX12_step 162 = .ok (.if_icmp .ne 21, 3) := by decide +kernel
theorem dX12_step_165 : decode cX12_step 165 = .ok (.iload 7, 2) := by decide +kernel
theorem dX12_step_167 : decode cX12_step 167 = .ok (.ifCond .lt 10, 3) := by decide +kernel
theorem dX12_step_170 : decode cX12_step 170 = .ok (.iload 7, 2) := by decide +kernel
theorem dX12_step_172 : decode cX12_step 172 = .ok (.bipush 34, 2) := by decide +kernel
theorem dX12_step_174 : decode cX12_step 174 = .ok (.if_icmp .le 9, 3) := by decide +kernel
theorem dX12_step_177 : decode cX12_step 177 = .ok (.aload_n 0, 1) := by decide +kernel
theorem dX12_step_178 : decode cX12_step 178 = .ok (.iconst 1, 1) := by decide +kernel
theorem dX12_step_179 : decode cX12_step 179 = .ok (.invokevirtual 573, 3) := by decide +kernel
theorem dX12_step_182 : decode cX12_step 182 = .ok (.return_, 1) := by decide +kernel
theorem dX12_step_183 : decode cX12_step 183 = .ok (.iload 4, 2) := by decide +kernel
theorem dX12_step_185 : decode cX12_step 185 = .ok (.bipush 12, 2) := by decide +kernel
theorem dX12_step_187 : decode cX12_step 187 = .ok (.if_icmp .ge 34, 3) := by decide +kernel
theorem dX12_step_190 : decode cX12_step 190 = .ok (.aload_n 0, 1) := by decide +kernel
theorem dX12_step_191 : decode cX12_step 191 = .ok (.iload 5, 2) := by decide +kernel
theorem dX12_step_193 : decode cX12_step 193 = .ok (.iload 4, 2) := by decide +kernel
theorem dX12_step_195 : decode cX12_step 195 = .ok (.aload_n 0, 1) := by decide +kernel
theorem dX12_step_196 : decode cX12_step 196 = .ok (.iload 6, 2) := by decide +kernel
theorem dX12_step_198 : decode cX12_step 198 = .ok (.invokevirtual 579, 3) := by decide +kernel
theorem dX12_step_201 : decode cX12_step 201 = .ok (.aload_n 0, 1) := by decide +kernel
theorem dX12_step_202 : decode cX12_step 202 = .ok (.iload_n 3, 1) := by decide +kernel
theorem dX12_step_203 : decode cX12_step 203 = .ok (.bipush 14, 2) := by decide +kernel
theorem dX12_step_205 : decode cX12_step 205 = .ok (.iushr, 1) := by decide +kernel
theorem dX12_step_206 : decode cX12_step 206 = .ok (.bipush 15, 2) := by decide +kernel
theorem dX12_step_208 : decode cX12_step 208 = .ok (.iand, 1) := by decide +kernel
theorem dX12_step_209 : decode cX12_step 209 = .ok (.invokevirtual 579, 3) := by decide +kernel
theorem dX12_step_212 : decode cX12_step 212 = .ok (.invokestatic 582, 3) := by decide +kernel
theorem dX12_step_215 : decode cX12_step 215 = .ok (.invokevirtual 586, 3) := by decide +kernel
theorem dX12_step_218 : decode cX12_step 218 = .ok (.goto 304, 3) := by decide +kernel
theorem dX12_step_221 : decode cX12_step 221 = .ok (.iload 4, 2) := by decide +kernel
theorem dX12_step_223 : decode cX12_step 223 = .ok (.bipush 21, 2) := by decide +kernel
theorem dX12_step_225 : decode cX12_step 225 = .ok (.if_icmp .ge 28, 3) := by decide +kernel
theorem dX12_step_228 : decode cX12_step 228 = .ok (.aload_n 0, 1) := by decide +kernel
theorem dX12_step_229 : decode cX12_step 229 = .ok (.iload 5, 2) := by decide +kernel
theorem dX12_step_231 : decode cX12_step 231 = .ok (.iload 4, 2) := by decide +kernel
theorem dX12_step_233 : decode cX12_step 233 = .ok (.invokestatic 589, 3) := by decide +kernel
theorem dX12_step_236 : decode cX12_step 236 = .ok (.aload_n 0, 1) := by decide +kernel
theorem dX12_step_237 : decode cX12_step 237 = .ok (.iload 6, 2) := by decide +kernel
theorem dX12_step_239 : decode cX12_step 239 = .ok (.invokevirtual 579, 3) := by decide +kernel
theorem dX12_step_242 : decode cX12_step 242 = .ok (.iload 7, 2) := by decide +kernel
theorem dX12_step_244 : decode cX12_step 244 = .ok (.invokestatic 582, 3) := by decide +kernel
theorem dX12_step_247 : decode cX12_step 247 = .ok (.invokevirtual 586, 3) := by decide +kernel
theorem dX12_step_250 : decode cX12_step 250 = .ok (.goto 272, 3) := by decide +kernel
theorem dX12_step_253 : decode cX12_step 253 = .ok (.iload 4, 2) := by decide +kernel
theorem dX12_step_255 : decode cX12_step 255 = .ok (.bipush 21, 2) := by decide +kernel
theorem dX12_step_257 : decode cX12_step 257 = .ok (.if_icmp .ne 20, 3) := by decide +kernel
theorem dX12_step_260 : decode cX12_step 260 = .ok (.aload_n 0, 1) := by decide +kernel
theorem dX12_step_261 : decode cX12_step 261 = .ok (.iload 5, 2) := by decide +kernel
theorem dX12_step_263 : decode cX12_step 263 = .ok (.iload_n 3, 1) := by decide +kernel
theorem dX12_step_264 : decode cX12_step 264 = .ok (.ldc_w 445, 3) := by decide +kernel
theorem dX12_step_267 : decode cX12_step 267 = .ok (.iand, 1) := by decide +kernel
theorem dX12_step_268 : decode cX12_step 268 = .ok (.bipush 14, 2) := by decide +kernel
theorem dX12_step_270 : decode cX12_step 270 = .ok (.ishl, 1) := by decide +kernel
theorem dX12_step_271 : decode cX12_step 271 = .ok (.invokevirtual 586, 3) := by decide +kernel
theorem dX12_step_274 : decode cX12_step 274 = .ok (.goto 248, 3) := by decide +kernel
theorem dX12_step_277 : decode cX12_step 277 = .ok (.iload 4, 2) := by decide +kernel
theorem dX12_step_279 : decode cX12_step 279 = .ok (.bipush 30, 2) := by decide +kernel
theorem dX12_step_281 : decode cX12_step 281 = .ok (.if_icmp .ge 94, 3) := by decide +kernel
theorem dX12_step_284 : decode cX12_step 284 = .ok (.aload_n 0, 1) := by decide +kernel
theorem dX12_step_285 : decode cX12_step 285 = .ok (.iload 6, 2) := by decide +kernel
theorem dX12_step_287 : decode cX12_step 287 = .ok (.invokevirtual 579, 3) := by decide +kernel
theorem dX12_step_290 : decode cX12_step 290 = .ok (.iload 7, 2) := by decide +kernel
theorem dX12_step_292 : decode cX12_step 292 = .ok (.iadd, 1) := by decide +kernel
theorem dX12_step_293 : decode cX12_step 293 = .ok (.istore 8, 2) := by decide +kernel
theorem dX12_step_295 : decode cX12_step 295 = .ok (.iload 4, 2) := by decide +kernel
theorem dX12_step_297 : decode cX12_step 297 = .ok (.invokestatic 490, 3) := by decide +kernel
theorem dX12_step_300 : decode cX12_step 300 = .ok (.istore 9, 2) := by decide +kernel
theorem dX12_step_302 : decode cX12_step 302 = .ok (.iload 8, 2) := by decide +kernel
theorem dX12_step_304 : decode cX12_step 304 = .ok (.iload 9, 2) := by decide +kernel
theorem dX12_step_306 : decode cX12_step 306 = .ok (.iconst 1, 1) := by decide +kernel
theorem dX12_step_307 : decode cX12_step 307 = .ok (.isub, 1) := by decide +kernel
theorem dX12_step_308 : decode cX12_step 308 = .ok (.iand, 1) := by decide +kernel
theorem dX12_step_309 : decode cX12_step 309 = .ok (.ifCond .eq 9, 3) := by decide +kernel
theorem dX12_step_312 : decode cX12_step 312 = .ok (.aload_n 0, 1) := by decide +kernel
theorem dX12_step_313 : decode cX12_step 313 = .ok (.iconst 3, 1) := by decide +kernel
theorem dX12_step_314 : decode cX12_step 314 = .ok (.invokevirtual 573, 3) := by decide +kernel
theorem dX12_step_317 : decode cX12_step 317 = .ok (.return_, 1) := by decide +kernel
theorem dX12_step_318 : decode cX12_step 318 = .ok (.iload 8, 2) := by decide +kernel
theorem dX12_step_320 : decode cX12_step 320 = .ok (.ifCond .lt 16, 3) := by decide +kernel
theorem dX12_step_323 : decode cX12_step 323 = .ok (.iload 8, 2) := by decide +kernel
theorem dX12_step_325 : decode cX12_step 325 = .ok (.iconst 4, 1) := by decide +kernel
theorem dX12_step_326 : decode cX12_step 326 = .ok (.aload_n 0, 1) := by decide +kernel
theorem dX12_step_327 : decode cX12_step 327 = .ok (.getfield 110, 3) := by decide +kernel
theorem dX12_step_330 : decode cX12_step 330 = .ok (.iload_n 1, 1) := by decide +kernel
theorem dX12_step_331 : decode cX12_step 331 = .ok (.iaload, 1) := by decide +kernel
theorem dX12_step_332 : decode cX12_step 332 = .ok (.imul, 1) := by decide +kernel
theorem dX12_step_333 : decode cX12_step 333 = .ok (.if_icmp .lt 9, 3) := by decide +kernel
theorem dX12_step_336 : decode cX12_step 336 = .ok (.aload_n 0, 1) := by decide +kernel
theorem dX12_step_337 : decode cX12_step 337 = .ok (.iconst 2, 1) := by decide +kernel
theorem dX12_step_338 : decode cX12_step 338 = .ok (.invokevirtual 573, 3) := by decide +kernel
theorem dX12_step_341 : decode cX12_step 341 = .ok (.return_, 1) := by decide +kernel
theorem dX12_step_342 : decode cX12_step 342 = .ok (.iload 4, 2) := by decide +kernel
theorem dX12_step_344 : decode cX12_step 344 = .ok (.bipush 27, 2) := by decide +kernel
theorem dX12_step_346 : decode cX12_step 346 = .ok (.if_icmp .ge 16, 3) := by decide +kernel
theorem dX12_step_349 : decode cX12_step 349 = .ok (.aload_n 0, 1) := by decide +kernel
theorem dX12_step_350 : decode cX12_step 350 = .ok (.iload 4, 2) := by decide +kernel
theorem dX12_step_352 : decode cX12_step 352 = .ok (.iload 5, 2) := by decide +kernel
theorem dX12_step_354 : decode cX12_step 354 = .ok (.iload 8, 2) := by decide +kernel
theorem dX12_step_356 : decode cX12_step 356 = .ok (.invokevirtual 592, 3) := by decide +kernel
theorem dX12_step_359 : decode cX12_step 359 = .ok (.goto 13, 3) := by decide +kernel
theorem dX12_step_362 : decode cX12_step 362 = .ok (.aload_n 0, 1) := by decide +kernel
theorem dX12_step_363 : decode cX12_step 363 = .ok (.iload 9, 2) := by decide +kernel
theorem dX12_step_365 : decode cX12_step 365 = .ok (.iload 5, 2) := by decide +kernel
theorem dX12_step_367 : decode cX12_step 367 = .ok (.iload 8, 2) := by decide +kernel
theorem dX12_step_369 : decode cX12_step 369 = .ok (.invokevirtual 596, 3) := by decide +kernel
theorem dX12_step_372 : decode cX12_step 372 = .ok (.goto 150, 3) := by decide +kernel
theorem dX12_step_375 : decode cX12_step 375 = .ok (.iload 4, 2) := by decide +kernel
theorem dX12_step_377 : decode cX12_step 377 = .ok (.bipush 36, 2) := by decide +kernel
theorem dX12_step_379 : decode cX12_step 379 = .ok (.if_icmp .ge 36, 3) := by decide +kernel
theorem dX12_step_382 : decode cX12_step 382 = .ok (.iload 4, 2) := by decide +kernel
theorem dX12_step_384 : decode cX12_step 384 = .ok (.aload_n 0, 1) := by decide +kernel
theorem dX12_step_385 : decode cX12_step 385 = .ok (.iload 5, 2) := by decide +kernel
theorem dX12_step_387 : decode cX12_step 387 = .ok (.invokevirtual 579, 3) := by decide +kernel
theorem dX12_step_390 : decode cX12_step 390 = .ok (.aload_n 0, 1) := by decide +kernel
theorem dX12_step_391 : decode cX12_step 391 = .ok (.iload 6, 2) := by decide +kernel
theorem dX12_step_393 : decode cX12_step 393 = .ok (.invokevirtual 579, 3) := by decide +kernel
theorem dX12_step_396 : decode cX12_step 396 = .ok (.invokestatic 599, 3) := by decide +kernel
theorem dX12_step_399 : decode cX12_step 399 = .ok (.ifCond .eq 123, 3) := by decide +kernel
theorem dX12_step_402 : decode cX12_step 402 = .ok (.aload_n 0, 1) := by decide +kernel
theorem dX12_step_403 : decode cX12_step 403 = .ok (.iload_n 2, 1) := by decide +kernel
theorem dX12_step_404 : decode cX12_step 404 = .ok (.iconst 4, 1) := by decide +kernel
theorem dX12_step_405 : decode cX12_step 405 = .ok (.iload 7, 2) := by decide +kernel
theorem dX12_step_407 : decode cX12_step 407 = .ok (.imul, 1) := by decide +kernel
theorem dX12_step_408 : decode cX12_step 408 = .ok (.iadd, 1) := by decide +kernel
theorem dX12_step_409 : decode cX12_step 409 = .ok (.putfield 576, 3) := by decide +kernel
theorem dX12_step_412 : decode cX12_step 412 = .ok (.goto 110, 3) := by decide +kernel
theorem dX12_step_415 : decode cX12_step 415 = .ok (.iload 4, 2) := by decide +kernel
theorem dX12_step_417 : decode cX12_step 417 = .ok (.bipush 36, 2) := by decide +kernel
theorem dX12_step_419 : decode cX12_step 419 = .ok (.if_icmp .ne 25, 3) := by decide +kernel
theorem dX12_step_422 : decode cX12_step 422 = .ok (.aload_n 0, 1) := by decide +kernel
theorem dX12_step_423 : decode cX12_step 423 = .ok (.iload 5, 2) := by decide +kernel
theorem dX12_step_425 : decode cX12_step 425 = .ok (.iload_n 2, 1) := by decide +kernel
theorem dX12_step_426 : decode cX12_step 426 = .ok (.iconst 4, 1) := by decide +kernel
theorem dX12_step_427 : decode cX12_step 427 = .ok (.iadd, 1) := by decide +kernel
theorem dX12_step_428 : decode cX12_step 428 = .ok (.invokevirtual 586, 3) := by decide +kernel
theorem dX12_step_431 : decode cX12_step 431 = .ok (.aload_n 0, 1) := by decide +kernel
theorem dX12_step_432 : decode cX12_step 432 = .ok (.iload_n 2, 1) := by decide +kernel
theorem dX12_step_433 : decode cX12_step 433 = .ok (.iconst 4, 1) := by decide +kernel
theorem dX12_step_434 : decode cX12_step 434 = .ok (.iload 7, 2) := by decide +kernel
theorem dX12_step_436 : decode cX12_step 436 = .ok (.imul, 1) := by decide +kernel
theorem dX12_step_437 : decode cX12_step 437 = .ok (.iadd, 1) := by decide +kernel
theorem dX12_step_438 : decode cX12_step 438 = .ok (.putfield 576, 3) := by decide +kernel
theorem dX12_step_441 : decode cX12_step 441 = .ok (.goto 81, 3) := by decide +kernel
theorem dX12_step_444 : decode cX12_step 444 = .ok (.iload 4, 2) := by decide +kernel
theorem dX12_step_446 : decode cX12_step 446 = .ok (.bipush 37, 2) := by decide +kernel
theorem dX12_step_448 : decode cX12_step 448 = .ok (.if_icmp .ne 28, 3) := by decide +kernel
theorem dX12_step_451 : decode cX12_step 451 = .ok (.aload_n 0, 1) := by decide +kernel
theorem dX12_step_452 : decode cX12_step 452 = .ok (.aload_n 0, 1) := by decide +kernel
theorem dX12_step_453 : decode cX12_step 453 = .ok (.iload 6, 2) := by decide +kernel
theorem dX12_step_455 : decode cX12_step 455 = .ok (.invokevirtual 579, 3) := by decide +kernel
theorem dX12_step_458 : decode cX12_step 458 = .ok (.iload 7, 2) := by decide +kernel
theorem dX12_step_460 : decode cX12_step 460 = .ok (.iadd, 1) := by decide +kernel
theorem dX12_step_461 : decode cX12_step 461 = .ok (.putfield 576, 3) := by decide +kernel
theorem dX12_step_464 : decode cX12_step 464 = .ok (.aload_n 0, 1) := by decide +kernel
theorem dX12_step_465 : decode cX12_step 465 = .ok (.iload 5, 2) := by decide +kernel
theorem dX12_step_467 : decode cX12_step 467 = .ok (.iload_n 2, 1) := by decide +kernel
theorem dX12_step_468 : decode cX12_step 468 = .ok (.iconst 4, 1) := by decide +kernel
theorem dX12_step_469 : decode cX12_step 469 = .ok (.iadd, 1) := by decide +kernel
theorem dX12_step_470 : decode cX12_step 470 = .ok (.invokevirtual 586, 3) := by decide +kernel
theorem dX12_step_473 : decode cX12_step 473 = .ok (.goto 49, 3) := by decide +kernel
theorem dX12_step_476 : decode cX12_step 476 = .ok (.iload 4, 2) := by decide +kernel
theorem dX12_step_478 : decode cX12_step 478 = .ok (.bipush 38, 2) := by decide +kernel
theorem dX12_step_480 : decode cX12_step 480 = .ok (.if_icmp .ne 17, 3) := by decide +kernel
theorem dX12_step_483 : decode cX12_step 483 = .ok (.aload_n 0, 1) := by decide +kernel
theorem dX12_step_484 : decode cX12_step 484 = .ok (.iload 7, 2) := by decide +kernel
theorem dX12_step_486 : decode cX12_step 486 = .ok (.invokevirtual 603, 3) := by decide +kernel
theorem dX12_step_489 : decode cX12_step 489 = .ok (.aload_n 0, 1) := by decide +kernel
theorem dX12_step_490 : decode cX12_step 490 = .ok (.getfield 553, 3) := by decide +kernel
theorem dX12_step_493 : decode cX12_step 493 = .ok (.ifCond .eq 29, 3) := by decide +kernel
theorem dX12_step_496 : decode cX12_step 496 = .ok (.return_, 1) := by decide +kernel
theorem dX12_step_497 : decode cX12_step 497 = .ok (.aload_n 0, 1) := by decide +kernel
theorem dX12_step_498 : decode cX12_step 498 = .ok (.aload_n 0, 1) := by decide +kernel
theorem dX12_step_499 : decode cX12_step 499 = .ok (.getfield 194, 3) := by decide +kernel
theorem dX12_step_502 : decode cX12_step 502 = .ok (.aload_n 0, 1) := by decide +kernel
theorem dX12_step_503 : decode cX12_step 503 = .ok (.getfield 563, 3) := by decide +kernel
theorem dX12_step_506 : decode cX12_step 506 = .ok (.iaload, 1) := by decide +kernel
theorem dX12_step_507 : decode cX12_step 507 = .ok (.iconst 4, 1) := by decide +kernel
theorem dX12_step_508 : decode cX12_step 508 = .ok (.iadd, 1) := by decide +kernel
theorem dX12_step_509 : decode cX12_step 509 = .ok (.putfield 576, 3) := by decide +kernel
theorem dX12_step_512 : decode cX12_step 512 = .ok (.aload_n 0, 1) := by decide +kernel
theorem dX12_step_513 : decode cX12_step 513 = .ok (.getfield 200, 3) := by decide +kernel
theorem dX12_step_516 : decode cX12_step 516 = .ok (.aload_n 0, 1) := by decide +kernel
theorem dX12_step_517 : decode cX12_step 517 = .ok (.getfield 563, 3) := by decide +kernel
theorem dX12_step_520 : decode cX12_step 520 = .ok (.iconst 0, 1) := by decide +kernel
theorem dX12_step_521 : decode cX12_step 521 = .ok (.bastore, 1) := by decide +kernel
theorem dX12_step_522 : decode cX12_step 522 = .ok (.aload_n 0, 1) := by decide +kernel
theorem dX12_step_523 : decode cX12_step 523 = .ok (.getfield 185, 3) := by decide +kernel
theorem dX12_step_526 : decode cX12_step 526 = .ok (.aload_n 0, 1) := by decide +kernel
theorem dX12_step_527 : decode cX12_step 527 = .ok (.getfield 563, 3) := by decide +kernel
theorem dX12_step_530 : decode cX12_step 530 = .ok (.aload_n 0, 1) := by decide +kernel
theorem dX12_step_531 : decode cX12_step 531 = .ok (.getfield 576, 3) := by decide +kernel
theorem dX12_step_534 : decode cX12_step 534 = .ok (.iastore, 1) := by decide +kernel
theorem dX12_step_535 : decode cX12_step 535 = .ok (.return_, 1) := by decide +kernel
theorem cc_step : Cond.code yX12_step cX12_step 10 none ∈ rf_tb := rf_at 2112 (by decide +kernel) (by decide +kernel)
theorem cw_step : rf_wV yX12_step cX12_step 10 none 556 1 := ⟨⟨rf_at 2109 (by decide +kernel) (by decide +kernel), rf_at 2111 (by decide +kernel) (by decide +kernel), rf_sel (q := (yX12_step, 122)) 109 (by decide +kernel) (by decide +kernel), cc_step⟩, rfl, by decide +kernel⟩
noncomputable def bq_step_69  (ρ : rf_S) : Option (rf_S) := bd1 (fq_trap (4:Int32) ρ) (fun ρ_5 => some ρ_5)
set_option maxHeartbeats 4000000 in
theorem wq_step_69 (C : rf_C D p s m args meth c cX12_step 10 none) {ρ ρ' : rf_S} {H : Heap} {locs : List Loc} {ls : Array Slot} (h : bq_step_69 ρ = some ρ') (G : rf_G D h0 s ρ H locs) (hl : lv_has ls 10 [(0, .ref h0)]) : W p l e ({ frames := 7, cells := 0, slots := 0, locals := 169 }) s m args below meth c H locs 0 0 (MQ below (rf_Q D h0 none ρ') args s 0 0 (rf_A h0)) (F0 m 69 ls []) := by
  unfold bq_step_69 at h
  refine lv_aload_n C.1 C.2.1 dX12_step_69 rfl (lv_at hl 0 rfl) ?_
  refine lv_iconst (v := (4:Int32)) C.1 C.2.1 dX12_step_70 (by decide) ?_
  obtain ⟨ρ_5, hq, h⟩ := bd1_some h
  refine rf_callV (rest := []) C G cw_trap [.int (4:Int32)] _ (kq_trap l D h0 hq) (Nat.le_of_ble_eq_true rfl) (Nat.le_of_ble_eq_true rfl) rfl rfl hl.1 (Nat.le_of_ble_eq_true rfl) (Nat.zero_le _) (Nat.zero_le _) dX12_step_71 (fun H locs G => ?_)
  refine W.eq (g2 := F0 m 74 ls []) rfl ?_
  exact rf_vret C G h dX12_step_74
noncomputable def bq_step_177  (ρ : rf_S) : Option (rf_S) := bd1 (fq_trap (1:Int32) ρ) (fun ρ_13 => some ρ_13)
set_option maxHeartbeats 4000000 in
theorem wq_step_177 (C : rf_C D p s m args meth c cX12_step 10 none) {ρ ρ' : rf_S} {H : Heap} {locs : List Loc} {ls : Array Slot} (h : bq_step_177 ρ = some ρ') (G : rf_G D h0 s ρ H locs) (hl : lv_has ls 10 [(0, .ref h0)]) : W p l e ({ frames := 7, cells := 0, slots := 0, locals := 169 }) s m args below meth c H locs 0 0 (MQ below (rf_Q D h0 none ρ') args s 0 0 (rf_A h0)) (F0 m 177 ls []) := by
  unfold bq_step_177 at h
  refine lv_aload_n C.1 C.2.1 dX12_step_177 rfl (lv_at hl 0 rfl) ?_
  refine lv_iconst (v := (1:Int32)) C.1 C.2.1 dX12_step_178 (by decide) ?_
  obtain ⟨ρ_13, hq, h⟩ := bd1_some h
  refine rf_callV (rest := []) C G cw_trap [.int (1:Int32)] _ (kq_trap l D h0 hq) (Nat.le_of_ble_eq_true rfl) (Nat.le_of_ble_eq_true rfl) rfl rfl hl.1 (Nat.le_of_ble_eq_true rfl) (Nat.zero_le _) (Nat.zero_le _) dX12_step_179 (fun H locs G => ?_)
  refine W.eq (g2 := F0 m 182 ls []) rfl ?_
  exact rf_vret C G h dX12_step_182
noncomputable def bq_step_522  (ρ : rf_S) : Option (rf_S) := ix (ρ.1 0 119) 16 (vl (rf_w ρ 54 (ρ.1 0 119).toNatClampNeg (ρ.1 0 121)) (fun ρ_16 => some ρ_16))
set_option maxHeartbeats 4000000 in
theorem wq_step_522 (C : rf_C D p s m args meth c cX12_step 10 none) {ρ ρ' : rf_S} {H : Heap} {locs : List Loc} {ls : Array Slot} (h : bq_step_522 ρ = some ρ') (G : rf_G D h0 s ρ H locs) (hl : lv_has ls 10 [(0, .ref h0)]) : W p l e ({ frames := 7, cells := 0, slots := 0, locals := 169 }) s m args below meth c H locs 0 0 (MQ below (rf_Q D h0 none ρ') args s 0 0 (rf_A h0)) (F0 m 522 ls []) := by
  unfold bq_step_522 at h
  refine lv_aload_n C.1 C.2.1 dX12_step_522 rfl (lv_at hl 0 rfl) ?_
  refine gf_86 C G dX12_step_523 ?_
  refine lv_aload_n C.1 C.2.1 dX12_step_526 rfl (lv_at hl 0 rfl) ?_
  refine gf_119 C G dX12_step_527 ?_
  refine lv_aload_n C.1 C.2.1 dX12_step_530 rfl (lv_at hl 0 rfl) ?_
  refine gf_121 C G dX12_step_531 ?_
  obtain ⟨hi, h⟩ := ix_some h
  refine rf_iast C G 54 rfl (by decide) rfl rfl hi dX12_step_534 (fun H locs G => ?_)
  refine rf_nm G h (fun ρ_16 G h => ?_)
  exact rf_vret C G h dX12_step_535
noncomputable def bq_step_336  (ρ : rf_S) : Option (rf_S) := bd1 (fq_trap (2:Int32) ρ) (fun ρ_36 => some ρ_36)
set_option maxHeartbeats 4000000 in
theorem wq_step_336 (C : rf_C D p s m args meth c cX12_step 10 none) {ρ ρ' : rf_S} {H : Heap} {locs : List Loc} {ls : Array Slot} (h : bq_step_336 ρ = some ρ') (G : rf_G D h0 s ρ H locs) (hl : lv_has ls 10 [(0, .ref h0)]) : W p l e ({ frames := 7, cells := 0, slots := 0, locals := 169 }) s m args below meth c H locs 0 0 (MQ below (rf_Q D h0 none ρ') args s 0 0 (rf_A h0)) (F0 m 336 ls []) := by
  unfold bq_step_336 at h
  refine lv_aload_n C.1 C.2.1 dX12_step_336 rfl (lv_at hl 0 rfl) ?_
  refine lv_iconst (v := (2:Int32)) C.1 C.2.1 dX12_step_337 (by decide) ?_
  obtain ⟨ρ_36, hq, h⟩ := bd1_some h
  refine rf_callV (rest := []) C G cw_trap [.int (2:Int32)] _ (kq_trap l D h0 hq) (Nat.le_of_ble_eq_true rfl) (Nat.le_of_ble_eq_true rfl) rfl rfl hl.1 (Nat.le_of_ble_eq_true rfl) (Nat.zero_le _) (Nat.zero_le _) dX12_step_338 (fun H locs G => ?_)
  refine W.eq (g2 := F0 m 341 ls []) rfl ?_
  exact rf_vret C G h dX12_step_341
noncomputable def bq_step_372  (ρ : rf_S) : Option (rf_S) := bq_step_522 ρ
set_option maxHeartbeats 4000000 in
theorem wq_step_372 (C : rf_C D p s m args meth c cX12_step 10 none) {ρ ρ' : rf_S} {H : Heap} {locs : List Loc} {ls : Array Slot} (h : bq_step_372 ρ = some ρ') (G : rf_G D h0 s ρ H locs) (hl : lv_has ls 10 [(0, .ref h0)]) : W p l e ({ frames := 7, cells := 0, slots := 0, locals := 169 }) s m args below meth c H locs 0 0 (MQ below (rf_Q D h0 none ρ') args s 0 0 (rf_A h0)) (F0 m 372 ls []) := by
  unfold bq_step_372 at h
  refine lv_goto (tgt := 522) C.1 C.2.1 dX12_step_372 (by decide) ?_
  exact wq_step_522 C h G (lv_sub hl [0] rfl)
noncomputable def bq_step_183 (x1 : Int32) (x2 : Int32) (x3 : Int32) (x4 : Int32) (x5 : Int32) (x6 : Int32) (x7 : Int32) (ρ : rf_S) : Option (rf_S) := (if (12:Int32) ≤ x4 then (if (21:Int32) ≤ x4 then (if x4 = (21:Int32) then bd1 (fq_give x5 ((x3 &&& (262143:Int32)) <<< ((14:Int32) &&& 31)) ρ) (fun ρ_40 => bq_step_522 ρ_40) else (if (30:Int32) ≤ x4 then (if (36:Int32) ≤ x4 then (if x4 = (36:Int32) then bd1 (fq_give x5 (x2 + (4:Int32)) ρ) (fun ρ_22 => vl (rf_w ρ_22 0 121 (x2 + ((4:Int32) * x7))) (fun ρ_23 => bq_step_522 ρ_23)) else (if x4 = (37:Int32) then bd2 (fq_reg x6 ρ) (fun r_19 ρ_18 => vl (rf_w ρ_18 0 121 (r_19 + x7)) (fun ρ_20 => bd1 (fq_give x5 (x2 + (4:Int32)) ρ_20) (fun ρ_21 => bq_step_522 ρ_21))) else (if x4 = (38:Int32) then bd1 (fq_ask x7 ρ) (fun ρ_17 => (if (ρ_17.1 0 108) = 0 then bq_step_522 ρ_17 else some ρ_17)) else ix (ρ.1 0 119) 16 (vl (rf_w ρ 0 121 ((ρ.1 57 (ρ.1 0 119).toNatClampNeg) + (4:Int32))) (fun ρ_14 => ix (ρ_14.1 0 119) 16 (vl (rf_w ρ_14 59 (ρ_14.1 0 119).toNatClampNeg (vp_nar .boolean (0:Int32))) (fun ρ_15 => bq_step_522 ρ_15))))))) else bd2 (fq_reg x5 ρ) (fun r_25 ρ_24 => bd2 (fq_reg x6 ρ_24) (fun r_27 ρ_26 => bd2 (fq_branches x4 r_25 r_27 ρ_26) (fun r_29 ρ_28 => (if r_29 = 0 then bq_step_522 ρ_28 else vl (rf_w ρ_28 0 121 (x2 + ((4:Int32) * x7))) (fun ρ_30 => bq_step_522 ρ_30)))))) else bd2 (fq_reg x6 ρ) (fun r_32 ρ_31 => vl (r_32 + x7) (fun x8_33 => bd2 (fq_widthOf x4 ρ_31) (fun r_35 ρ_34 => (if (x8_33 &&& (r_35 - (1:Int32))) = 0 then (if x8_33 < 0 then bq_step_336 ρ_34 else ix x1 8 ((if x8_33 < ((4:Int32) * (ρ_34.1 29 x1.toNatClampNeg)) then (if (27:Int32) ≤ x4 then bd1 (fq_store r_35 x5 x8_33 ρ_34) (fun ρ_37 => bq_step_372 ρ_37) else bd1 (fq_load x4 x5 x8_33 ρ_34) (fun ρ_38 => bq_step_372 ρ_38)) else bq_step_336 ρ_34))) else bd1 (fq_trap (3:Int32) ρ_34) (fun ρ_39 => some ρ_39))))))) else bd2 (fq_plainOf x4 ρ) (fun r_42 ρ_41 => bd2 (fq_reg x6 ρ_41) (fun r_44 ρ_43 => bd2 (fq_reckon r_42 r_44 x7 ρ_43) (fun r_46 ρ_45 => bd1 (fq_give x5 r_46 ρ_45) (fun ρ_47 => bq_step_522 ρ_47))))) else bd2 (fq_reg x6 ρ) (fun r_49 ρ_48 => bd2 (fq_reg (((x3.toUInt32 >>> ((14:Int32).toUInt32 &&& Int32.toUInt32 31)).toInt32) &&& (15:Int32)) ρ_48) (fun r_51 ρ_50 => bd2 (fq_reckon x4 r_49 r_51 ρ_50) (fun r_53 ρ_52 => bd1 (fq_give x5 r_53 ρ_52) (fun ρ_54 => bq_step_522 ρ_54)))))
set_option maxHeartbeats 4000000 in
theorem wq_step_183 (C : rf_C D p s m args meth c cX12_step 10 none) {x1 : Int32} {x2 : Int32} {x3 : Int32} {x4 : Int32} {x5 : Int32} {x6 : Int32} {x7 : Int32} {ρ ρ' : rf_S} {H : Heap} {locs : List Loc} {ls : Array Slot} (h : bq_step_183 x1 x2 x3 x4 x5 x6 x7 ρ = some ρ') (G : rf_G D h0 s ρ H locs) (hl : lv_has ls 10 [(0, .ref h0), (1, .int x1), (2, .int x2), (3, .int x3), (4, .int x4), (5, .int x5), (6, .int x6), (7, .int x7)]) : W p l e ({ frames := 7, cells := 0, slots := 0, locals := 169 }) s m args below meth c H locs 0 0 (MQ below (rf_Q D h0 none ρ') args s 0 0 (rf_A h0)) (F0 m 183 ls []) := by
  unfold bq_step_183 at h
  refine lv_iload C.1 C.2.1 dX12_step_183 (lv_at hl 4 rfl) ?_
  refine lv_bipush (v := (12:Int32)) C.1 C.2.1 dX12_step_185 (by decide) ?_
  refine lv_icmp_ge (tgt := 221) C.1 C.2.1 dX12_step_187 (by decide) (fun hc => ?_) (fun hc => ?_)
  · rw [if_pos hc] at h
    refine lv_iload C.1 C.2.1 dX12_step_221 (lv_at hl 4 rfl) ?_
    refine lv_bipush (v := (21:Int32)) C.1 C.2.1 dX12_step_223 (by decide) ?_
    refine lv_icmp_ge (tgt := 253) C.1 C.2.1 dX12_step_225 (by decide) (fun hc => ?_) (fun hc => ?_)
    · rw [if_pos hc] at h
      refine lv_iload C.1 C.2.1 dX12_step_253 (lv_at hl 4 rfl) ?_
      refine lv_bipush (v := (21:Int32)) C.1 C.2.1 dX12_step_255 (by decide) ?_
      refine lv_icmp_ne (tgt := 277) C.1 C.2.1 dX12_step_257 (by decide) (fun hc => ?_) (fun hc => ?_)
      · rw [if_neg hc] at h
        refine lv_iload C.1 C.2.1 dX12_step_277 (lv_at hl 4 rfl) ?_
        refine lv_bipush (v := (30:Int32)) C.1 C.2.1 dX12_step_279 (by decide) ?_
        refine lv_icmp_ge (tgt := 375) C.1 C.2.1 dX12_step_281 (by decide) (fun hc => ?_) (fun hc => ?_)
        · rw [if_pos hc] at h
          refine lv_iload C.1 C.2.1 dX12_step_375 (lv_at hl 4 rfl) ?_
          refine lv_bipush (v := (36:Int32)) C.1 C.2.1 dX12_step_377 (by decide) ?_
          refine lv_icmp_ge (tgt := 415) C.1 C.2.1 dX12_step_379 (by decide) (fun hc => ?_) (fun hc => ?_)
          · rw [if_pos hc] at h
            refine lv_iload C.1 C.2.1 dX12_step_415 (lv_at hl 4 rfl) ?_
            refine lv_bipush (v := (36:Int32)) C.1 C.2.1 dX12_step_417 (by decide) ?_
            refine lv_icmp_ne (tgt := 444) C.1 C.2.1 dX12_step_419 (by decide) (fun hc => ?_) (fun hc => ?_)
            · rw [if_neg hc] at h
              refine lv_iload C.1 C.2.1 dX12_step_444 (lv_at hl 4 rfl) ?_
              refine lv_bipush (v := (37:Int32)) C.1 C.2.1 dX12_step_446 (by decide) ?_
              refine lv_icmp_ne (tgt := 476) C.1 C.2.1 dX12_step_448 (by decide) (fun hc => ?_) (fun hc => ?_)
              · rw [if_neg hc] at h
                refine lv_iload C.1 C.2.1 dX12_step_476 (lv_at hl 4 rfl) ?_
                refine lv_bipush (v := (38:Int32)) C.1 C.2.1 dX12_step_478 (by decide) ?_
                refine lv_icmp_ne (tgt := 497) C.1 C.2.1 dX12_step_480 (by decide) (fun hc => ?_) (fun hc => ?_)
                · rw [if_neg hc] at h
                  refine lv_aload_n C.1 C.2.1 dX12_step_497 rfl (lv_at hl 0 rfl) ?_
                  refine lv_aload_n C.1 C.2.1 dX12_step_498 rfl (lv_at hl 0 rfl) ?_
                  refine gf_89 C G dX12_step_499 ?_
                  refine lv_aload_n C.1 C.2.1 dX12_step_502 rfl (lv_at hl 0 rfl) ?_
                  refine gf_119 C G dX12_step_503 ?_
                  obtain ⟨hi, h⟩ := ix_some h
                  refine rf_iald C G 57 rfl (by decide) rfl rfl hi dX12_step_506 ?_
                  refine lv_iconst (v := (4:Int32)) C.1 C.2.1 dX12_step_507 (by decide) ?_
                  refine lv_iadd C.1 C.2.1 dX12_step_508 ?_
                  refine pf_121 C G dX12_step_509 (fun H locs G => ?_)
                  refine rf_nm G h (fun ρ_14 G h => ?_)
                  refine lv_aload_n C.1 C.2.1 dX12_step_512 rfl (lv_at hl 0 rfl) ?_
                  refine gf_91 C G dX12_step_513 ?_
                  refine lv_aload_n C.1 C.2.1 dX12_step_516 rfl (lv_at hl 0 rfl) ?_
                  refine gf_119 C G dX12_step_517 ?_
                  refine lv_iconst (v := (0:Int32)) C.1 C.2.1 dX12_step_520 (by decide) ?_
                  obtain ⟨hi, h⟩ := ix_some h
                  refine rf_zast C G 59 rfl (by decide) rfl rfl hi dX12_step_521 (fun H locs G => ?_)
                  refine rf_nm G h (fun ρ_15 G h => ?_)
                  exact wq_step_522 C h G (lv_sub hl [0] rfl)
                · rw [if_pos hc] at h
                  refine lv_aload_n C.1 C.2.1 dX12_step_483 rfl (lv_at hl 0 rfl) ?_
                  refine lv_iload C.1 C.2.1 dX12_step_484 (lv_at hl 7 rfl) ?_
                  obtain ⟨ρ_17, hq, h⟩ := bd1_some h
                  refine rf_callV (rest := []) C G cw_ask [.int x7] _ (kq_ask l D h0 hq) (Nat.le_of_ble_eq_true rfl) (Nat.le_of_ble_eq_true rfl) rfl rfl hl.1 (Nat.le_of_ble_eq_true rfl) (Nat.zero_le _) (Nat.zero_le _) dX12_step_486 (fun H locs G => ?_)
                  refine W.eq (g2 := F0 m 489 ls []) rfl ?_
                  refine lv_aload_n C.1 C.2.1 dX12_step_489 rfl (lv_at hl 0 rfl) ?_
                  refine gf_108 C G dX12_step_490 ?_
                  refine lv_if_eq (tgt := 522) C.1 C.2.1 dX12_step_493 (by decide) (fun hc => ?_) (fun hc => ?_)
                  · rw [if_pos hc] at h
                    exact wq_step_522 C h G (lv_sub hl [0] rfl)
                  · rw [if_neg hc] at h
                    exact rf_vret C G h dX12_step_496
              · rw [if_pos hc] at h
                refine lv_aload_n C.1 C.2.1 dX12_step_451 rfl (lv_at hl 0 rfl) ?_
                refine lv_aload_n C.1 C.2.1 dX12_step_452 rfl (lv_at hl 0 rfl) ?_
                refine lv_iload C.1 C.2.1 dX12_step_453 (lv_at hl 6 rfl) ?_
                obtain ⟨r_19, ρ_18, hq, h⟩ := bd2_some h
                refine rf_callV (rest := [.ref h0]) C G cw_reg [.int x6] _ (kq_reg l D h0 hq) (Nat.le_of_ble_eq_true rfl) (Nat.le_of_ble_eq_true rfl) rfl rfl hl.1 (Nat.le_of_ble_eq_true rfl) (Nat.zero_le _) (Nat.zero_le _) dX12_step_455 (fun H locs G => ?_)
                refine W.eq (g2 := F0 m 458 ls [.int r_19, .ref h0]) rfl ?_
                refine lv_iload C.1 C.2.1 dX12_step_458 (lv_at hl 7 rfl) ?_
                refine lv_iadd C.1 C.2.1 dX12_step_460 ?_
                refine pf_121 C G dX12_step_461 (fun H locs G => ?_)
                refine rf_nm G h (fun ρ_20 G h => ?_)
                refine lv_aload_n C.1 C.2.1 dX12_step_464 rfl (lv_at hl 0 rfl) ?_
                refine lv_iload C.1 C.2.1 dX12_step_465 (lv_at hl 5 rfl) ?_
                refine lv_iload_n C.1 C.2.1 dX12_step_467 rfl (lv_at hl 2 rfl) ?_
                refine lv_iconst (v := (4:Int32)) C.1 C.2.1 dX12_step_468 (by decide) ?_
                refine lv_iadd C.1 C.2.1 dX12_step_469 ?_
                obtain ⟨ρ_21, hq, h⟩ := bd1_some h
                refine rf_callV (rest := []) C G cw_give [.int x5, .int (x2 + (4:Int32))] _ (kq_give l D h0 hq) (Nat.le_of_ble_eq_true rfl) (Nat.le_of_ble_eq_true rfl) rfl rfl hl.1 (Nat.le_of_ble_eq_true rfl) (Nat.zero_le _) (Nat.zero_le _) dX12_step_470 (fun H locs G => ?_)
                refine W.eq (g2 := F0 m 473 ls []) rfl ?_
                refine lv_goto (tgt := 522) C.1 C.2.1 dX12_step_473 (by decide) ?_
                exact wq_step_522 C h G (lv_sub hl [0] rfl)
            · rw [if_pos hc] at h
              refine lv_aload_n C.1 C.2.1 dX12_step_422 rfl (lv_at hl 0 rfl) ?_
              refine lv_iload C.1 C.2.1 dX12_step_423 (lv_at hl 5 rfl) ?_
              refine lv_iload_n C.1 C.2.1 dX12_step_425 rfl (lv_at hl 2 rfl) ?_
              refine lv_iconst (v := (4:Int32)) C.1 C.2.1 dX12_step_426 (by decide) ?_
              refine lv_iadd C.1 C.2.1 dX12_step_427 ?_
              obtain ⟨ρ_22, hq, h⟩ := bd1_some h
              refine rf_callV (rest := []) C G cw_give [.int x5, .int (x2 + (4:Int32))] _ (kq_give l D h0 hq) (Nat.le_of_ble_eq_true rfl) (Nat.le_of_ble_eq_true rfl) rfl rfl hl.1 (Nat.le_of_ble_eq_true rfl) (Nat.zero_le _) (Nat.zero_le _) dX12_step_428 (fun H locs G => ?_)
              refine W.eq (g2 := F0 m 431 ls []) rfl ?_
              refine lv_aload_n C.1 C.2.1 dX12_step_431 rfl (lv_at hl 0 rfl) ?_
              refine lv_iload_n C.1 C.2.1 dX12_step_432 rfl (lv_at hl 2 rfl) ?_
              refine lv_iconst (v := (4:Int32)) C.1 C.2.1 dX12_step_433 (by decide) ?_
              refine lv_iload C.1 C.2.1 dX12_step_434 (lv_at hl 7 rfl) ?_
              refine lv_imul C.1 C.2.1 dX12_step_436 ?_
              refine lv_iadd C.1 C.2.1 dX12_step_437 ?_
              refine pf_121 C G dX12_step_438 (fun H locs G => ?_)
              refine rf_nm G h (fun ρ_23 G h => ?_)
              refine lv_goto (tgt := 522) C.1 C.2.1 dX12_step_441 (by decide) ?_
              exact wq_step_522 C h G (lv_sub hl [0] rfl)
          · rw [if_neg hc] at h
            refine lv_iload C.1 C.2.1 dX12_step_382 (lv_at hl 4 rfl) ?_
            refine lv_aload_n C.1 C.2.1 dX12_step_384 rfl (lv_at hl 0 rfl) ?_
            refine lv_iload C.1 C.2.1 dX12_step_385 (lv_at hl 5 rfl) ?_
            obtain ⟨r_25, ρ_24, hq, h⟩ := bd2_some h
            refine rf_callV (rest := [.int x4]) C G cw_reg [.int x5] _ (kq_reg l D h0 hq) (Nat.le_of_ble_eq_true rfl) (Nat.le_of_ble_eq_true rfl) rfl rfl hl.1 (Nat.le_of_ble_eq_true rfl) (Nat.zero_le _) (Nat.zero_le _) dX12_step_387 (fun H locs G => ?_)
            refine W.eq (g2 := F0 m 390 ls [.int r_25, .int x4]) rfl ?_
            refine lv_aload_n C.1 C.2.1 dX12_step_390 rfl (lv_at hl 0 rfl) ?_
            refine lv_iload C.1 C.2.1 dX12_step_391 (lv_at hl 6 rfl) ?_
            obtain ⟨r_27, ρ_26, hq, h⟩ := bd2_some h
            refine rf_callV (rest := [.int r_25, .int x4]) C G cw_reg [.int x6] _ (kq_reg l D h0 hq) (Nat.le_of_ble_eq_true rfl) (Nat.le_of_ble_eq_true rfl) rfl rfl hl.1 (Nat.le_of_ble_eq_true rfl) (Nat.zero_le _) (Nat.zero_le _) dX12_step_393 (fun H locs G => ?_)
            refine W.eq (g2 := F0 m 396 ls [.int r_27, .int r_25, .int x4]) rfl ?_
            obtain ⟨r_29, ρ_28, hq, h⟩ := bd2_some h
            refine rf_callS (rest := []) C G cw_branches [.int x4, .int r_25, .int r_27] _ (kq_branches l D h0 hq) (Nat.le_of_ble_eq_true rfl) (Nat.le_of_ble_eq_true rfl) rfl rfl hl.1 (Nat.le_of_ble_eq_true rfl) (Nat.zero_le _) (Nat.zero_le _) dX12_step_396 (fun H locs G => ?_)
            refine W.eq (g2 := F0 m 399 ls [.int r_29]) rfl ?_
            refine lv_if_eq (tgt := 522) C.1 C.2.1 dX12_step_399 (by decide) (fun hc => ?_) (fun hc => ?_)
            · rw [if_pos hc] at h
              exact wq_step_522 C h G (lv_sub hl [0] rfl)
            · rw [if_neg hc] at h
              refine lv_aload_n C.1 C.2.1 dX12_step_402 rfl (lv_at hl 0 rfl) ?_
              refine lv_iload_n C.1 C.2.1 dX12_step_403 rfl (lv_at hl 2 rfl) ?_
              refine lv_iconst (v := (4:Int32)) C.1 C.2.1 dX12_step_404 (by decide) ?_
              refine lv_iload C.1 C.2.1 dX12_step_405 (lv_at hl 7 rfl) ?_
              refine lv_imul C.1 C.2.1 dX12_step_407 ?_
              refine lv_iadd C.1 C.2.1 dX12_step_408 ?_
              refine pf_121 C G dX12_step_409 (fun H locs G => ?_)
              refine rf_nm G h (fun ρ_30 G h => ?_)
              refine lv_goto (tgt := 522) C.1 C.2.1 dX12_step_412 (by decide) ?_
              exact wq_step_522 C h G (lv_sub hl [0] rfl)
        · rw [if_neg hc] at h
          refine lv_aload_n C.1 C.2.1 dX12_step_284 rfl (lv_at hl 0 rfl) ?_
          refine lv_iload C.1 C.2.1 dX12_step_285 (lv_at hl 6 rfl) ?_
          obtain ⟨r_32, ρ_31, hq, h⟩ := bd2_some h
          refine rf_callV (rest := []) C G cw_reg [.int x6] _ (kq_reg l D h0 hq) (Nat.le_of_ble_eq_true rfl) (Nat.le_of_ble_eq_true rfl) rfl rfl hl.1 (Nat.le_of_ble_eq_true rfl) (Nat.zero_le _) (Nat.zero_le _) dX12_step_287 (fun H locs G => ?_)
          refine W.eq (g2 := F0 m 290 ls [.int r_32]) rfl ?_
          refine lv_iload C.1 C.2.1 dX12_step_290 (lv_at hl 7 rfl) ?_
          refine lv_iadd C.1 C.2.1 dX12_step_292 ?_
          refine vt_i h (fun x8_33 h => ?_)
          refine lv_istore (lv' := [(8, .int x8_33), (0, .ref h0), (1, .int x1), (2, .int x2), (3, .int x3), (4, .int x4), (5, .int x5), (6, .int x6), (7, .int x7)]) C.1 C.2.1 dX12_step_293 hl (by decide) rfl (fun ls hl => ?_)
          refine lv_iload C.1 C.2.1 dX12_step_295 (lv_at hl 5 rfl) ?_
          obtain ⟨r_35, ρ_34, hq, h⟩ := bd2_some h
          refine rf_callS (rest := []) C G cw_widthOf [.int x4] _ (kq_widthOf l D h0 hq) (Nat.le_of_ble_eq_true rfl) (Nat.le_of_ble_eq_true rfl) rfl rfl hl.1 (Nat.le_of_ble_eq_true rfl) (Nat.zero_le _) (Nat.zero_le _) dX12_step_297 (fun H locs G => ?_)
          refine W.eq (g2 := F0 m 300 ls [.int r_35]) rfl ?_
          refine lv_istore (lv' := [(9, .int r_35), (8, .int x8_33), (0, .ref h0), (1, .int x1), (2, .int x2), (3, .int x3), (4, .int x4), (5, .int x5), (6, .int x6), (7, .int x7)]) C.1 C.2.1 dX12_step_300 hl (by decide) rfl (fun ls hl => ?_)
          refine lv_iload C.1 C.2.1 dX12_step_302 (lv_at hl 1 rfl) ?_
          refine lv_iload C.1 C.2.1 dX12_step_304 (lv_at hl 0 rfl) ?_
          refine lv_iconst (v := (1:Int32)) C.1 C.2.1 dX12_step_306 (by decide) ?_
          refine lv_isub C.1 C.2.1 dX12_step_307 ?_
          refine lv_iand C.1 C.2.1 dX12_step_308 ?_
          refine lv_if_eq (tgt := 318) C.1 C.2.1 dX12_step_309 (by decide) (fun hc => ?_) (fun hc => ?_)
          · rw [if_pos hc] at h
            refine lv_iload C.1 C.2.1 dX12_step_318 (lv_at hl 1 rfl) ?_
            refine lv_if_lt (tgt := 336) C.1 C.2.1 dX12_step_320 (by decide) (fun hc => ?_) (fun hc => ?_)
            · rw [if_pos hc] at h
              exact wq_step_336 C h G (lv_sub hl [2] rfl)
            · rw [if_neg hc] at h
              refine lv_iload C.1 C.2.1 dX12_step_323 (lv_at hl 1 rfl) ?_
              refine lv_iconst (v := (4:Int32)) C.1 C.2.1 dX12_step_325 (by decide) ?_
              refine lv_aload_n C.1 C.2.1 dX12_step_326 rfl (lv_at hl 2 rfl) ?_
              refine gf_57 C G dX12_step_327 ?_
              refine lv_iload_n C.1 C.2.1 dX12_step_330 rfl (lv_at hl 3 rfl) ?_
              obtain ⟨hi, h⟩ := ix_some h
              refine rf_iald C G 29 rfl (by decide) rfl rfl hi dX12_step_331 ?_
              refine lv_imul C.1 C.2.1 dX12_step_332 ?_
              refine lv_icmp_lt (tgt := 342) C.1 C.2.1 dX12_step_333 (by decide) (fun hc => ?_) (fun hc => ?_)
              · rw [if_pos hc] at h
                refine lv_iload C.1 C.2.1 dX12_step_342 (lv_at hl 6 rfl) ?_
                refine lv_bipush (v := (27:Int32)) C.1 C.2.1 dX12_step_344 (by decide) ?_
                refine lv_icmp_ge (tgt := 362) C.1 C.2.1 dX12_step_346 (by decide) (fun hc => ?_) (fun hc => ?_)
                · rw [if_pos hc] at h
                  refine lv_aload_n C.1 C.2.1 dX12_step_362 rfl (lv_at hl 2 rfl) ?_
                  refine lv_iload C.1 C.2.1 dX12_step_363 (lv_at hl 0 rfl) ?_
                  refine lv_iload C.1 C.2.1 dX12_step_365 (lv_at hl 7 rfl) ?_
                  refine lv_iload C.1 C.2.1 dX12_step_367 (lv_at hl 1 rfl) ?_
                  obtain ⟨ρ_37, hq, h⟩ := bd1_some h
                  refine rf_callV (rest := []) C G cw_store [.int r_35, .int x5, .int x8_33] _ (kq_store l D h0 hq) (Nat.le_of_ble_eq_true rfl) (Nat.le_of_ble_eq_true rfl) rfl rfl hl.1 (Nat.le_of_ble_eq_true rfl) (Nat.zero_le _) (Nat.zero_le _) dX12_step_369 (fun H locs G => ?_)
                  refine W.eq (g2 := F0 m 372 ls []) rfl ?_
                  exact wq_step_372 C h G (lv_sub hl [2] rfl)
                · rw [if_neg hc] at h
                  refine lv_aload_n C.1 C.2.1 dX12_step_349 rfl (lv_at hl 2 rfl) ?_
                  refine lv_iload C.1 C.2.1 dX12_step_350 (lv_at hl 6 rfl) ?_
                  refine lv_iload C.1 C.2.1 dX12_step_352 (lv_at hl 7 rfl) ?_
                  refine lv_iload C.1 C.2.1 dX12_step_354 (lv_at hl 1 rfl) ?_
                  obtain ⟨ρ_38, hq, h⟩ := bd1_some h
                  refine rf_callV (rest := []) C G cw_load [.int x4, .int x5, .int x8_33] _ (kq_load l D h0 hq) (Nat.le_of_ble_eq_true rfl) (Nat.le_of_ble_eq_true rfl) rfl rfl hl.1 (Nat.le_of_ble_eq_true rfl) (Nat.zero_le _) (Nat.zero_le _) dX12_step_356 (fun H locs G => ?_)
                  refine W.eq (g2 := F0 m 359 ls []) rfl ?_
                  refine lv_goto (tgt := 372) C.1 C.2.1 dX12_step_359 (by decide) ?_
                  exact wq_step_372 C h G (lv_sub hl [2] rfl)
              · rw [if_neg hc] at h
                exact wq_step_336 C h G (lv_sub hl [2] rfl)
          · rw [if_neg hc] at h
            refine lv_aload_n C.1 C.2.1 dX12_step_312 rfl (lv_at hl 2 rfl) ?_
            refine lv_iconst (v := (3:Int32)) C.1 C.2.1 dX12_step_313 (by decide) ?_
            obtain ⟨ρ_39, hq, h⟩ := bd1_some h
            refine rf_callV (rest := []) C G cw_trap [.int (3:Int32)] _ (kq_trap l D h0 hq) (Nat.le_of_ble_eq_true rfl) (Nat.le_of_ble_eq_true rfl) rfl rfl hl.1 (Nat.le_of_ble_eq_true rfl) (Nat.zero_le _) (Nat.zero_le _) dX12_step_314 (fun H locs G => ?_)
            refine W.eq (g2 := F0 m 317 ls []) rfl ?_
            exact rf_vret C G h dX12_step_317
      · rw [if_pos hc] at h
        refine lv_aload_n C.1 C.2.1 dX12_step_260 rfl (lv_at hl 0 rfl) ?_
        refine lv_iload C.1 C.2.1 dX12_step_261 (lv_at hl 5 rfl) ?_
        refine lv_iload_n C.1 C.2.1 dX12_step_263 rfl (lv_at hl 3 rfl) ?_
        refine lv_ldcw (v := (262143:Int32)) C.1 C.2.1 C.2.2.2.1 (C.2.2.2.2.1 _ kc_445) dX12_step_264 ?_
        refine lv_iand C.1 C.2.1 dX12_step_267 ?_
        refine lv_bipush (v := (14:Int32)) C.1 C.2.1 dX12_step_268 (by decide) ?_
        refine lv_ishl C.1 C.2.1 dX12_step_270 ?_
        obtain ⟨ρ_40, hq, h⟩ := bd1_some h
        refine rf_callV (rest := []) C G cw_give [.int x5, .int ((x3 &&& (262143:Int32)) <<< ((14:Int32) &&& 31))] _ (kq_give l D h0 hq) (Nat.le_of_ble_eq_true rfl) (Nat.le_of_ble_eq_true rfl) rfl rfl hl.1 (Nat.le_of_ble_eq_true rfl) (Nat.zero_le _) (Nat.zero_le _) dX12_step_271 (fun H locs G => ?_)
        refine W.eq (g2 := F0 m 274 ls []) rfl ?_
        refine lv_goto (tgt := 522) C.1 C.2.1 dX12_step_274 (by decide) ?_
        exact wq_step_522 C h G (lv_sub hl [0] rfl)
    · rw [if_neg hc] at h
      refine lv_aload_n C.1 C.2.1 dX12_step_228 rfl (lv_at hl 0 rfl) ?_
      refine lv_iload C.1 C.2.1 dX12_step_229 (lv_at hl 5 rfl) ?_
      refine lv_iload C.1 C.2.1 dX12_step_231 (lv_at hl 4 rfl) ?_
      obtain ⟨r_42, ρ_41, hq, h⟩ := bd2_some h
      refine rf_callS (rest := [.int x5, .ref h0]) C G cw_plainOf [.int x4] _ (kq_plainOf l D h0 hq) (Nat.le_of_ble_eq_true rfl) (Nat.le_of_ble_eq_true rfl) rfl rfl hl.1 (Nat.le_of_ble_eq_true rfl) (Nat.zero_le _) (Nat.zero_le _) dX12_step_233 (fun H locs G => ?_)
      refine W.eq (g2 := F0 m 236 ls [.int r_42, .int x5, .ref h0]) rfl ?_
      refine lv_aload_n C.1 C.2.1 dX12_step_236 rfl (lv_at hl 0 rfl) ?_
      refine lv_iload C.1 C.2.1 dX12_step_237 (lv_at hl 6 rfl) ?_
      obtain ⟨r_44, ρ_43, hq, h⟩ := bd2_some h
      refine rf_callV (rest := [.int r_42, .int x5, .ref h0]) C G cw_reg [.int x6] _ (kq_reg l D h0 hq) (Nat.le_of_ble_eq_true rfl) (Nat.le_of_ble_eq_true rfl) rfl rfl hl.1 (Nat.le_of_ble_eq_true rfl) (Nat.zero_le _) (Nat.zero_le _) dX12_step_239 (fun H locs G => ?_)
      refine W.eq (g2 := F0 m 242 ls [.int r_44, .int r_42, .int x5, .ref h0]) rfl ?_
      refine lv_iload C.1 C.2.1 dX12_step_242 (lv_at hl 7 rfl) ?_
      obtain ⟨r_46, ρ_45, hq, h⟩ := bd2_some h
      refine rf_callS (rest := [.int x5, .ref h0]) C G cw_reckon [.int r_42, .int r_44, .int x7] _ (kq_reckon l D h0 hq) (Nat.le_of_ble_eq_true rfl) (Nat.le_of_ble_eq_true rfl) rfl rfl hl.1 (Nat.le_of_ble_eq_true rfl) (Nat.zero_le _) (Nat.zero_le _) dX12_step_244 (fun H locs G => ?_)
      refine W.eq (g2 := F0 m 247 ls [.int r_46, .int x5, .ref h0]) rfl ?_
      obtain ⟨ρ_47, hq, h⟩ := bd1_some h
      refine rf_callV (rest := []) C G cw_give [.int x5, .int r_46] _ (kq_give l D h0 hq) (Nat.le_of_ble_eq_true rfl) (Nat.le_of_ble_eq_true rfl) rfl rfl hl.1 (Nat.le_of_ble_eq_true rfl) (Nat.zero_le _) (Nat.zero_le _) dX12_step_247 (fun H locs G => ?_)
      refine W.eq (g2 := F0 m 250 ls []) rfl ?_
      refine lv_goto (tgt := 522) C.1 C.2.1 dX12_step_250 (by decide) ?_
      exact wq_step_522 C h G (lv_sub hl [0] rfl)
  · rw [if_neg hc] at h
    refine lv_aload_n C.1 C.2.1 dX12_step_190 rfl (lv_at hl 0 rfl) ?_
    refine lv_iload C.1 C.2.1 dX12_step_191 (lv_at hl 5 rfl) ?_
    refine lv_iload C.1 C.2.1 dX12_step_193 (lv_at hl 4 rfl) ?_
    refine lv_aload_n C.1 C.2.1 dX12_step_195 rfl (lv_at hl 0 rfl) ?_
    refine lv_iload C.1 C.2.1 dX12_step_196 (lv_at hl 6 rfl) ?_
    obtain ⟨r_49, ρ_48, hq, h⟩ := bd2_some h
    refine rf_callV (rest := [.int x4, .int x5, .ref h0]) C G cw_reg [.int x6] _ (kq_reg l D h0 hq) (Nat.le_of_ble_eq_true rfl) (Nat.le_of_ble_eq_true rfl) rfl rfl hl.1 (Nat.le_of_ble_eq_true rfl) (Nat.zero_le _) (Nat.zero_le _) dX12_step_198 (fun H locs G => ?_)
    refine W.eq (g2 := F0 m 201 ls [.int r_49, .int x4, .int x5, .ref h0]) rfl ?_
    refine lv_aload_n C.1 C.2.1 dX12_step_201 rfl (lv_at hl 0 rfl) ?_
    refine lv_iload_n C.1 C.2.1 dX12_step_202 rfl (lv_at hl 3 rfl) ?_
    refine lv_bipush (v := (14:Int32)) C.1 C.2.1 dX12_step_203 (by decide) ?_
    refine lv_iushr C.1 C.2.1 dX12_step_205 rfl ?_
    refine lv_bipush (v := (15:Int32)) C.1 C.2.1 dX12_step_206 (by decide) ?_
    refine lv_iand C.1 C.2.1 dX12_step_208 ?_
    obtain ⟨r_51, ρ_50, hq, h⟩ := bd2_some h
    refine rf_callV (rest := [.int r_49, .int x4, .int x5, .ref h0]) C G cw_reg [.int (((x3.toUInt32 >>> ((14:Int32).toUInt32 &&& Int32.toUInt32 31)).toInt32) &&& (15:Int32))] _ (kq_reg l D h0 hq) (Nat.le_of_ble_eq_true rfl) (Nat.le_of_ble_eq_true rfl) rfl rfl hl.1 (Nat.le_of_ble_eq_true rfl) (Nat.zero_le _) (Nat.zero_le _) dX12_step_209 (fun H locs G => ?_)
    refine W.eq (g2 := F0 m 212 ls [.int r_51, .int r_49, .int x4, .int x5, .ref h0]) rfl ?_
    obtain ⟨r_53, ρ_52, hq, h⟩ := bd2_some h
    refine rf_callS (rest := [.int x5, .ref h0]) C G cw_reckon [.int x4, .int r_49, .int r_51] _ (kq_reckon l D h0 hq) (Nat.le_of_ble_eq_true rfl) (Nat.le_of_ble_eq_true rfl) rfl rfl hl.1 (Nat.le_of_ble_eq_true rfl) (Nat.zero_le _) (Nat.zero_le _) dX12_step_212 (fun H locs G => ?_)
    refine W.eq (g2 := F0 m 215 ls [.int r_53, .int x5, .ref h0]) rfl ?_
    obtain ⟨ρ_54, hq, h⟩ := bd1_some h
    refine rf_callV (rest := []) C G cw_give [.int x5, .int r_53] _ (kq_give l D h0 hq) (Nat.le_of_ble_eq_true rfl) (Nat.le_of_ble_eq_true rfl) rfl rfl hl.1 (Nat.le_of_ble_eq_true rfl) (Nat.zero_le _) (Nat.zero_le _) dX12_step_215 (fun H locs G => ?_)
    refine W.eq (g2 := F0 m 218 ls []) rfl ?_
    refine lv_goto (tgt := 522) C.1 C.2.1 dX12_step_218 (by decide) ?_
    exact wq_step_522 C h G (lv_sub hl [0] rfl)
noncomputable def bq_step_158 (x1 : Int32) (x2 : Int32) (x3 : Int32) (x4 : Int32) (x5 : Int32) (x6 : Int32) (x7 : Int32) (ρ : rf_S) : Option (rf_S) := (if x4 = (38:Int32) then (if x7 < 0 then bq_step_177 ρ else (if x7 ≤ (34:Int32) then bq_step_183 x1 x2 x3 x4 x5 x6 x7 ρ else bq_step_177 ρ)) else bq_step_183 x1 x2 x3 x4 x5 x6 x7 ρ)
set_option maxHeartbeats 4000000 in
theorem wq_step_158 (C : rf_C D p s m args meth c cX12_step 10 none) {x1 : Int32} {x2 : Int32} {x3 : Int32} {x4 : Int32} {x5 : Int32} {x6 : Int32} {x7 : Int32} {ρ ρ' : rf_S} {H : Heap} {locs : List Loc} {ls : Array Slot} (h : bq_step_158 x1 x2 x3 x4 x5 x6 x7 ρ = some ρ') (G : rf_G D h0 s ρ H locs) (hl : lv_has ls 10 [(0, .ref h0), (1, .int x1), (2, .int x2), (3, .int x3), (4, .int x4), (5, .int x5), (6, .int x6), (7, .int x7)]) : W p l e ({ frames := 7, cells := 0, slots := 0, locals := 169 }) s m args below meth c H locs 0 0 (MQ below (rf_Q D h0 none ρ') args s 0 0 (rf_A h0)) (F0 m 158 ls []) := by
  unfold bq_step_158 at h
  refine lv_iload C.1 C.2.1 dX12_step_158 (lv_at hl 4 rfl) ?_
  refine lv_bipush (v := (38:Int32)) C.1 C.2.1 dX12_step_160 (by decide) ?_
  refine lv_icmp_ne (tgt := 183) C.1 C.2.1 dX12_step_162 (by decide) (fun hc => ?_) (fun hc => ?_)
  · rw [if_neg hc] at h
    exact wq_step_183 C h G (lv_sub hl [0, 1, 2, 3, 4, 5, 6, 7] rfl)
  · rw [if_pos hc] at h
    refine lv_iload C.1 C.2.1 dX12_step_165 (lv_at hl 7 rfl) ?_
    refine lv_if_lt (tgt := 177) C.1 C.2.1 dX12_step_167 (by decide) (fun hc => ?_) (fun hc => ?_)
    · rw [if_pos hc] at h
      exact wq_step_177 C h G (lv_sub hl [0] rfl)
    · rw [if_neg hc] at h
      refine lv_iload C.1 C.2.1 dX12_step_170 (lv_at hl 7 rfl) ?_
      refine lv_bipush (v := (34:Int32)) C.1 C.2.1 dX12_step_172 (by decide) ?_
      refine lv_icmp_le (tgt := 183) C.1 C.2.1 dX12_step_174 (by decide) (fun hc => ?_) (fun hc => ?_)
      · rw [if_pos hc] at h
        exact wq_step_183 C h G (lv_sub hl [0, 1, 2, 3, 4, 5, 6, 7] rfl)
      · rw [if_neg hc] at h
        exact wq_step_177 C h G (lv_sub hl [0] rfl)
noncomputable def bq_step_0 (x1 : Int32) (ρ : rf_S) : Option (rf_S) := vl (rf_w ρ 0 118 x1) (fun ρ_1 => vl (rf_w ρ_1 0 119 (((8:Int32) * (ρ_1.1 0 79)) + x1)) (fun ρ_2 => ix x1 8 (vl (rf_w ρ_2 0 120 (((8192:Int32) * (ρ_2.1 0 79)) + (ρ_2.1 28 x1.toNatClampNeg))) (fun ρ_3 => ix (ρ_3.1 0 119) 16 (vl (ρ_3.1 54 (ρ_3.1 0 119).toNatClampNeg) (fun x2_4 => (if x2_4 < 0 then bq_step_69 ρ_3 else ix x1 8 ((if ((4:Int32) * (ρ_3.1 29 x1.toNatClampNeg)) ≤ x2_4 then bq_step_69 ρ_3 else (if (x2_4 - x2_4 / (4:Int32) * (4:Int32)) = 0 then ix ((ρ_3.1 0 120) + (x2_4 / (4:Int32))) 16384 (vl (ρ_3.1 52 ((ρ_3.1 0 120) + (x2_4 / (4:Int32))).toNatClampNeg) (fun x3_6 => vl ((x3_6.toUInt32 >>> ((26:Int32).toUInt32 &&& Int32.toUInt32 31)).toInt32) (fun x4_7 => vl (((x3_6.toUInt32 >>> ((22:Int32).toUInt32 &&& Int32.toUInt32 31)).toInt32) &&& (15:Int32)) (fun x5_8 => vl (((x3_6.toUInt32 >>> ((18:Int32).toUInt32 &&& Int32.toUInt32 31)).toInt32) &&& (15:Int32)) (fun x6_9 => bd2 (fq_signed x3_6 ρ_3) (fun r_11 ρ_10 => vl (rf_w ρ_10 0 121 (x2_4 + (4:Int32))) (fun ρ_12 => (if x4_7 < (1:Int32) then bq_step_177 ρ_12 else (if (39:Int32) < x4_7 then bq_step_177 ρ_12 else (if x4_7 = (39:Int32) then ix (ρ_12.1 0 119) 16 ((if (ρ_12.1 59 (ρ_12.1 0 119).toNatClampNeg) = 0 then bq_step_177 ρ_12 else bq_step_158 x1 x2_4 x3_6 x4_7 x5_8 x6_9 r_11 ρ_12)) else bq_step_158 x1 x2_4 x3_6 x4_7 x5_8 x6_9 r_11 ρ_12)))))))))) else bq_step_69 ρ_3))))))))))
set_option maxHeartbeats 4000000 in
theorem wq_step_0 (C : rf_C D p s m args meth c cX12_step 10 none) {x1 : Int32} {ρ ρ' : rf_S} {H : Heap} {locs : List Loc} {ls : Array Slot} (h : bq_step_0 x1 ρ = some ρ') (G : rf_G D h0 s ρ H locs) (hl : lv_has ls 10 [(0, .ref h0), (1, .int x1)]) : W p l e ({ frames := 7, cells := 0, slots := 0, locals := 169 }) s m args below meth c H locs 0 0 (MQ below (rf_Q D h0 none ρ') args s 0 0 (rf_A h0)) (F0 m 0 ls []) := by
  unfold bq_step_0 at h
  refine lv_aload_n C.1 C.2.1 dX12_step_0 rfl (lv_at hl 0 rfl) ?_
  refine lv_iload_n C.1 C.2.1 dX12_step_1 rfl (lv_at hl 1 rfl) ?_
  refine pf_118 C G dX12_step_2 (fun H locs G => ?_)
  refine rf_nm G h (fun ρ_1 G h => ?_)
  refine lv_aload_n C.1 C.2.1 dX12_step_5 rfl (lv_at hl 0 rfl) ?_
  refine lv_bipush (v := (8:Int32)) C.1 C.2.1 dX12_step_6 (by decide) ?_
  refine lv_aload_n C.1 C.2.1 dX12_step_8 rfl (lv_at hl 0 rfl) ?_
  refine gf_79 C G dX12_step_9 ?_
  refine lv_imul C.1 C.2.1 dX12_step_12 ?_
  refine lv_iload_n C.1 C.2.1 dX12_step_13 rfl (lv_at hl 1 rfl) ?_
  refine lv_iadd C.1 C.2.1 dX12_step_14 ?_
  refine pf_119 C G dX12_step_15 (fun H locs G => ?_)
  refine rf_nm G h (fun ρ_2 G h => ?_)
  refine lv_aload_n C.1 C.2.1 dX12_step_18 rfl (lv_at hl 0 rfl) ?_
  refine lv_sipush (v := (8192:Int32)) C.1 C.2.1 dX12_step_19 (by decide) ?_
  refine lv_aload_n C.1 C.2.1 dX12_step_22 rfl (lv_at hl 0 rfl) ?_
  refine gf_79 C G dX12_step_23 ?_
  refine lv_imul C.1 C.2.1 dX12_step_26 ?_
  refine lv_aload_n C.1 C.2.1 dX12_step_27 rfl (lv_at hl 0 rfl) ?_
  refine gf_56 C G dX12_step_28 ?_
  refine lv_iload_n C.1 C.2.1 dX12_step_31 rfl (lv_at hl 1 rfl) ?_
  obtain ⟨hi, h⟩ := ix_some h
  refine rf_iald C G 28 rfl (by decide) rfl rfl hi dX12_step_32 ?_
  refine lv_iadd C.1 C.2.1 dX12_step_33 ?_
  refine pf_120 C G dX12_step_34 (fun H locs G => ?_)
  refine rf_nm G h (fun ρ_3 G h => ?_)
  refine lv_aload_n C.1 C.2.1 dX12_step_37 rfl (lv_at hl 0 rfl) ?_
  refine gf_86 C G dX12_step_38 ?_
  refine lv_aload_n C.1 C.2.1 dX12_step_41 rfl (lv_at hl 0 rfl) ?_
  refine gf_119 C G dX12_step_42 ?_
  obtain ⟨hi, h⟩ := ix_some h
  refine rf_iald C G 54 rfl (by decide) rfl rfl hi dX12_step_45 ?_
  refine vt_i h (fun x2_4 h => ?_)
  refine lv_istore_n (lv' := [(2, .int x2_4), (0, .ref h0), (1, .int x1)]) C.1 C.2.1 dX12_step_46 rfl hl (by decide) rfl (fun ls hl => ?_)
  refine lv_iload_n C.1 C.2.1 dX12_step_47 rfl (lv_at hl 0 rfl) ?_
  refine lv_if_lt (tgt := 69) C.1 C.2.1 dX12_step_48 (by decide) (fun hc => ?_) (fun hc => ?_)
  · rw [if_pos hc] at h
    exact wq_step_69 C h G (lv_sub hl [1] rfl)
  · rw [if_neg hc] at h
    refine lv_iload_n C.1 C.2.1 dX12_step_51 rfl (lv_at hl 0 rfl) ?_
    refine lv_iconst (v := (4:Int32)) C.1 C.2.1 dX12_step_52 (by decide) ?_
    refine lv_aload_n C.1 C.2.1 dX12_step_53 rfl (lv_at hl 1 rfl) ?_
    refine gf_57 C G dX12_step_54 ?_
    refine lv_iload_n C.1 C.2.1 dX12_step_57 rfl (lv_at hl 2 rfl) ?_
    obtain ⟨hi, h⟩ := ix_some h
    refine rf_iald C G 29 rfl (by decide) rfl rfl hi dX12_step_58 ?_
    refine lv_imul C.1 C.2.1 dX12_step_59 ?_
    refine lv_icmp_ge (tgt := 69) C.1 C.2.1 dX12_step_60 (by decide) (fun hc => ?_) (fun hc => ?_)
    · rw [if_pos hc] at h
      exact wq_step_69 C h G (lv_sub hl [1] rfl)
    · rw [if_neg hc] at h
      refine lv_iload_n C.1 C.2.1 dX12_step_63 rfl (lv_at hl 0 rfl) ?_
      refine lv_iconst (v := (4:Int32)) C.1 C.2.1 dX12_step_64 (by decide) ?_
      refine lv_irem C.1 C.2.1 dX12_step_65 (by decide) ?_
      refine lv_if_eq (tgt := 75) C.1 C.2.1 dX12_step_66 (by decide) (fun hc => ?_) (fun hc => ?_)
      · rw [if_pos hc] at h
        refine lv_aload_n C.1 C.2.1 dX12_step_75 rfl (lv_at hl 1 rfl) ?_
        refine gf_84 C G dX12_step_76 ?_
        refine lv_aload_n C.1 C.2.1 dX12_step_79 rfl (lv_at hl 1 rfl) ?_
        refine gf_120 C G dX12_step_80 ?_
        refine lv_iload_n C.1 C.2.1 dX12_step_83 rfl (lv_at hl 0 rfl) ?_
        refine lv_iconst (v := (4:Int32)) C.1 C.2.1 dX12_step_84 (by decide) ?_
        refine lv_idiv C.1 C.2.1 dX12_step_85 (by decide) ?_
        refine lv_iadd C.1 C.2.1 dX12_step_86 ?_
        obtain ⟨hi, h⟩ := ix_some h
        refine rf_iald C G 52 rfl (by decide) rfl rfl hi dX12_step_87 ?_
        refine vt_i h (fun x3_6 h => ?_)
        refine lv_istore_n (lv' := [(3, .int x3_6), (2, .int x2_4), (0, .ref h0), (1, .int x1)]) C.1 C.2.1 dX12_step_88 rfl hl (by decide) rfl (fun ls hl => ?_)
        refine lv_iload_n C.1 C.2.1 dX12_step_89 rfl (lv_at hl 0 rfl) ?_
        refine lv_bipush (v := (26:Int32)) C.1 C.2.1 dX12_step_90 (by decide) ?_
        refine lv_iushr C.1 C.2.1 dX12_step_92 rfl ?_
        refine vt_i h (fun x4_7 h => ?_)
        refine lv_istore (lv' := [(4, .int x4_7), (3, .int x3_6), (2, .int x2_4), (0, .ref h0), (1, .int x1)]) C.1 C.2.1 dX12_step_93 hl (by decide) rfl (fun ls hl => ?_)
        refine lv_iload_n C.1 C.2.1 dX12_step_95 rfl (lv_at hl 1 rfl) ?_
        refine lv_bipush (v := (22:Int32)) C.1 C.2.1 dX12_step_96 (by decide) ?_
        refine lv_iushr C.1 C.2.1 dX12_step_98 rfl ?_
        refine lv_bipush (v := (15:Int32)) C.1 C.2.1 dX12_step_99 (by decide) ?_
        refine lv_iand C.1 C.2.1 dX12_step_101 ?_
        refine vt_i h (fun x5_8 h => ?_)
        refine lv_istore (lv' := [(5, .int x5_8), (4, .int x4_7), (3, .int x3_6), (2, .int x2_4), (0, .ref h0), (1, .int x1)]) C.1 C.2.1 dX12_step_102 hl (by decide) rfl (fun ls hl => ?_)
        refine lv_iload_n C.1 C.2.1 dX12_step_104 rfl (lv_at hl 2 rfl) ?_
        refine lv_bipush (v := (18:Int32)) C.1 C.2.1 dX12_step_105 (by decide) ?_
        refine lv_iushr C.1 C.2.1 dX12_step_107 rfl ?_
        refine lv_bipush (v := (15:Int32)) C.1 C.2.1 dX12_step_108 (by decide) ?_
        refine lv_iand C.1 C.2.1 dX12_step_110 ?_
        refine vt_i h (fun x6_9 h => ?_)
        refine lv_istore (lv' := [(6, .int x6_9), (5, .int x5_8), (4, .int x4_7), (3, .int x3_6), (2, .int x2_4), (0, .ref h0), (1, .int x1)]) C.1 C.2.1 dX12_step_111 hl (by decide) rfl (fun ls hl => ?_)
        refine lv_iload_n C.1 C.2.1 dX12_step_113 rfl (lv_at hl 3 rfl) ?_
        obtain ⟨r_11, ρ_10, hq, h⟩ := bd2_some h
        refine rf_callS (rest := []) C G cw_signed [.int x3_6] _ (kq_signed l D h0 hq) (Nat.le_of_ble_eq_true rfl) (Nat.le_of_ble_eq_true rfl) rfl rfl hl.1 (Nat.le_of_ble_eq_true rfl) (Nat.zero_le _) (Nat.zero_le _) dX12_step_114 (fun H locs G => ?_)
        refine W.eq (g2 := F0 m 117 ls [.int r_11]) rfl ?_
        refine lv_istore (lv' := [(7, .int r_11), (6, .int x6_9), (5, .int x5_8), (4, .int x4_7), (3, .int x3_6), (2, .int x2_4), (0, .ref h0), (1, .int x1)]) C.1 C.2.1 dX12_step_117 hl (by decide) rfl (fun ls hl => ?_)
        refine lv_aload_n C.1 C.2.1 dX12_step_119 rfl (lv_at hl 6 rfl) ?_
        refine lv_iload_n C.1 C.2.1 dX12_step_120 rfl (lv_at hl 5 rfl) ?_
        refine lv_iconst (v := (4:Int32)) C.1 C.2.1 dX12_step_121 (by decide) ?_
        refine lv_iadd C.1 C.2.1 dX12_step_122 ?_
        refine pf_121 C G dX12_step_123 (fun H locs G => ?_)
        refine rf_nm G h (fun ρ_12 G h => ?_)
        refine lv_iload C.1 C.2.1 dX12_step_126 (lv_at hl 3 rfl) ?_
        refine lv_iconst (v := (1:Int32)) C.1 C.2.1 dX12_step_128 (by decide) ?_
        refine lv_icmp_lt (tgt := 177) C.1 C.2.1 dX12_step_129 (by decide) (fun hc => ?_) (fun hc => ?_)
        · rw [if_pos hc] at h
          exact wq_step_177 C h G (lv_sub hl [6] rfl)
        · rw [if_neg hc] at h
          refine lv_iload C.1 C.2.1 dX12_step_132 (lv_at hl 3 rfl) ?_
          refine lv_bipush (v := (39:Int32)) C.1 C.2.1 dX12_step_134 (by decide) ?_
          refine lv_icmp_gt (tgt := 177) C.1 C.2.1 dX12_step_136 (by decide) (fun hc => ?_) (fun hc => ?_)
          · rw [if_pos hc] at h
            exact wq_step_177 C h G (lv_sub hl [6] rfl)
          · rw [if_neg hc] at h
            refine lv_iload C.1 C.2.1 dX12_step_139 (lv_at hl 3 rfl) ?_
            refine lv_bipush (v := (39:Int32)) C.1 C.2.1 dX12_step_141 (by decide) ?_
            refine lv_icmp_ne (tgt := 158) C.1 C.2.1 dX12_step_143 (by decide) (fun hc => ?_) (fun hc => ?_)
            · rw [if_neg hc] at h
              exact wq_step_158 C h G (lv_sub hl [6, 7, 5, 4, 3, 2, 1, 0] rfl)
            · rw [if_pos hc] at h
              refine lv_aload_n C.1 C.2.1 dX12_step_146 rfl (lv_at hl 6 rfl) ?_
              refine gf_91 C G dX12_step_147 ?_
              refine lv_aload_n C.1 C.2.1 dX12_step_150 rfl (lv_at hl 6 rfl) ?_
              refine gf_119 C G dX12_step_151 ?_
              obtain ⟨hi, h⟩ := ix_some h
              refine rf_zald C G 59 rfl (by decide) rfl rfl hi dX12_step_154 ?_
              refine lv_if_eq (tgt := 177) C.1 C.2.1 dX12_step_155 (by decide) (fun hc => ?_) (fun hc => ?_)
              · rw [if_pos hc] at h
                exact wq_step_177 C h G (lv_sub hl [6] rfl)
              · rw [if_neg hc] at h
                exact wq_step_158 C h G (lv_sub hl [6, 7, 5, 4, 3, 2, 1, 0] rfl)
      · rw [if_neg hc] at h
        exact wq_step_69 C h G (lv_sub hl [1] rfl)
noncomputable def fq_step (x1 : Int32) (ρ : rf_S) : Option (rf_S) := bq_step_0 x1 ρ
theorem kq_step (l : Launch) (D : rf_D) (h0 : Nat) {x1 : Int32} {ρ ρ' : rf_S} (h : fq_step x1 ρ = some ρ') : rf_Met l D h0 yX12_step cX12_step 10 none 7 169 [.ref h0, .int x1] ρ none ρ' :=
  rf_of rfl cc_step (Nat.le_of_ble_eq_true rfl) (fun p e s m args below meth c ls C G hl => wq_step_0 C h G hl)
abbrev cX12_tick : ByteArray := prog_14_method_64_code
def yX12_tick : MethodName := ⟨RX12, "tick", "()Z"⟩
theorem dX12_tick_0 : decode cX12_tick 0 = .ok (.aload_n 0, 1) := by decide +kernel
theorem dX12_tick_1 : decode cX12_tick 1 = .ok (.getfield 128, 3) := by decide +kernel
theorem dX12_tick_4 : decode cX12_tick 4 = .ok (.aload_n 0, 1) := by decide +kernel
theorem dX12_tick_5 : decode cX12_tick 5 = .ok (.getfield 170, 3) := by decide +kernel
theorem dX12_tick_8 : decode cX12_tick 8 = .ok (.aload_n 0, 1) := by decide +kernel
theorem dX12_tick_9 : decode cX12_tick 9 = .ok (.getfield 525, 3) := by decide +kernel
theorem dX12_tick_12 : decode cX12_tick 12 = .ok (.iaload, 1) := by decide +kernel
theorem dX12_tick_13 : decode cX12_tick 13 = .ok (.iaload, 1) := by decide +kernel
theorem dX12_tick_14 : decode cX12_tick 14 = .ok (.istore_n 1, 1) := by decide +kernel
theorem dX12_tick_15 : decode cX12_tick 15 = .ok (.aload_n 0, 1) := by decide +kernel
theorem dX12_tick_16 : decode cX12_tick 16 = .ok (.iconst 0, 1) := by decide +kernel
theorem dX12_tick_17 : decode cX12_tick 17 = .ok (.putfield 553, 3) := by decide +kernel
theorem dX12_tick_20 : decode cX12_tick 20 = .ok (.iload_n 1, 1) := by decide +kernel
theorem dX12_tick_21 : decode cX12_tick 21 = .ok (.aload_n 0, 1) := by decide +kernel
theorem dX12_tick_22 : decode cX12_tick 22 = .ok (.getfield 513, 3) := by decide +kernel
theorem dX12_tick_25 : decode cX12_tick 25 = .ok (.if_icmp .ge 37, 3) := by decide +kernel
theorem dX12_tick_28 : decode cX12_tick 28 = .ok (.aload_n 0, 1) := by decide +kernel
theorem dX12_tick_29 : decode cX12_tick 29 = .ok (.getfield 188, 3) := by decide +kernel
theorem dX12_tick_32 : decode cX12_tick 32 = .ok (.bipush 8, 2) := by decide +kernel
theorem dX12_tick_34 : decode cX12_tick 34 = .ok (.aload_n 0, 1) := by decide +kernel
theorem dX12_tick_35 : decode cX12_tick 35 = .ok (.getfield 525, 3) := by decide +kernel
theorem dX12_tick_38 : decode cX12_tick 38 = .ok (.imul, 1) := by decide +kernel
theorem dX12_tick_39 : decode cX12_tick 39 = .ok (.iload_n 1, 1) := by decide +kernel
theorem dX12_tick_40 : decode cX12_tick 40 = .ok (.iadd, 1) := by decide +kernel
theorem dX12_tick_41 : decode cX12_tick 41 = .ok (.baload, 1) := by decide +kernel
theorem dX12_tick_42 : decode cX12_tick 42 = .ok (.ifCond .ne 20, 3) := by decide +kernel
theorem dX12_tick_45 : decode cX12_tick 45 = .ok (.aload_n 0, 1) := by decide +kernel
theorem dX12_tick_46 : decode cX12_tick 46 = .ok (.getfield 176, 3) := by decide +kernel
theorem dX12_tick_49 : decode cX12_tick 49 = .ok (.aload_n 0, 1) := by decide +kernel
theorem dX12_tick_50 : decode cX12_tick 50 = .ok (.getfield 525, 3) := by decide +kernel
theorem dX12_tick_53 : decode cX12_tick 53 = .ok (.baload, 1) := by decide +kernel
theorem dX12_tick_54 : decode cX12_tick 54 = .ok (.ifCond .ne 8, 3) := by decide +kernel
theorem dX12_tick_57 : decode cX12_tick 57 = .ok (.aload_n 0, 1) := by decide +kernel
theorem dX12_tick_58 : decode cX12_tick 58 = .ok (.iload_n 1, 1) := by decide +kernel
theorem dX12_tick_59 : decode cX12_tick 59 = .ok (.invokevirtual 556, 3) := by decide +kernel
theorem dX12_tick_62 : decode cX12_tick 62 = .ok (.aload_n 0, 1) := by decide +kernel
theorem dX12_tick_63 : decode cX12_tick 63 = .ok (.getfield 553, 3) := by decide +kernel
theorem dX12_tick_66 : decode cX12_tick 66 = .ok (.ifCond .eq 5, 3) := by decide +kernel
theorem dX12_tick_69 : decode cX12_tick 69 = .ok (.iconst 0, 1) := by decide +kernel
theorem dX12_tick_70 : decode cX12_tick 70 = .ok (.ireturn, 1) := by decide +kernel
theorem dX12_tick_71 : decode cX12_tick 71 = .ok (.aload_n 0, 1) := by decide +kernel
theorem dX12_tick_72 : decode cX12_tick 72 = .ok (.getfield 167, 3) := by decide +kernel
theorem dX12_tick_75 : decode cX12_tick 75 = .ok (.aload_n 0, 1) := by decide +kernel
theorem dX12_tick_76 : decode cX12_tick 76 = .ok (.getfield 525, 3) := by decide +kernel
theorem dX12_tick_79 : decode cX12_tick 79 = .ok (.dup2, 1) := by decide +kernel
theorem dX12_tick_80 : decode cX12_tick 80 = .ok (.iaload, 1) := by decide +kernel
theorem dX12_tick_81 : decode cX12_tick 81 = .ok (.iconst 1, 1) := by decide +kernel
theorem dX12_tick_82 : decode cX12_tick 82 = .ok (.iadd, 1) := by decide +kernel
theorem dX12_tick_83 : decode cX12_tick 83 = .ok (.iastore, 1) := by decide +kernel
theorem dX12_tick_84 : decode cX12_tick 84 = .ok (.aload_n 0, 1) := by decide +kernel
theorem dX12_tick_85 : decode cX12_tick 85 = .ok (.getfield 173, 3) := by decide +kernel
theorem dX12_tick_88 : decode cX12_tick 88 = .ok (.aload_n 0, 1) := by decide +kernel
theorem dX12_tick_89 : decode cX12_tick 89 = .ok (.getfield 525, 3) := by decide +kernel
theorem dX12_tick_92 : decode cX12_tick 92 = .ok (.dup2, 1) := by decide +kernel
theorem dX12_tick_93 : decode cX12_tick 93 = .ok (.iaload, 1) := by decide +kernel
theorem dX12_tick_94 : decode cX12_tick 94 = .ok (.iconst 1, 1) := by decide +kernel
theorem dX12_tick_95 : decode cX12_tick 95 = .ok (.iadd, 1) := by decide +kernel
theorem dX12_tick_96 : decode cX12_tick 96 = .ok (.iastore, 1) := by decide +kernel
theorem dX12_tick_97 : decode cX12_tick 97 = .ok (.aload_n 0, 1) := by decide +kernel
theorem dX12_tick_98 : decode cX12_tick 98 = .ok (.getfield 173, 3) := by decide +kernel
theorem dX12_tick_101 : decode cX12_tick 101 = .ok (.aload_n 0, 1) := by decide +kernel
theorem dX12_tick_102 : decode cX12_tick 102 = .ok (.getfield 525, 3) := by decide +kernel
theorem dX12_tick_105 : decode cX12_tick 105 = .ok (.iaload, 1) := by decide +kernel
theorem dX12_tick_106 : decode cX12_tick 106 = .ok (.aload_n 0, 1) := by decide +kernel
theorem dX12_tick_107 : decode cX12_tick 107 = .ok (.getfield 131, 3) := by decide +kernel
theorem dX12_tick_110 : decode cX12_tick 110 = .ok (.aload_n 0, 1) := by decide +kernel
theorem dX12_tick_111 : decode cX12_tick 111 = .ok (.getfield 170, 3) := by decide +kernel
theorem dX12_tick_114 : decode cX12_tick 114 = .ok (.aload_n 0, 1) := by decide +kernel
theorem dX12_tick_115 : decode cX12_tick 115 = .ok (.getfield 525, 3) := by decide +kernel
theorem dX12_tick_118 : decode cX12_tick 118 = .ok (.iaload, 1) := by decide +kernel
theorem dX12_tick_119 : decode cX12_tick 119 = .ok (.iaload, 1) := by decide +kernel
theorem dX12_tick_120 : decode cX12_tick 120 = .ok (.if_icmp .ne 48, 3) := by decide +kernel
theorem dX12_tick_123 : decode cX12_tick 123 = .ok (.aload_n 0, 1) := by decide +kernel
theorem dX12_tick_124 : decode cX12_tick 124 = .ok (.getfield 173, 3) := by decide +kernel
theorem dX12_tick_127 : decode cX12_tick 127 = .ok (.aload_n 0, 1) := by decide +kernel
theorem dX12_tick_128 : decode cX12_tick 128 = .ok (.getfield 525, 3) := by decide +kernel
theorem dX12_tick_131 : decode cX12_tick 131 = .ok (.iconst 0, 1) := by decide +kernel
theorem dX12_tick_132 : decode cX12_tick 132 = .ok (.iastore, 1) := by decide +kernel
theorem dX12_tick_133 : decode cX12_tick 133 = .ok (.aload_n 0, 1) := by decide +kernel
theorem dX12_tick_134 : decode cX12_tick 134 = .ok (.getfield 176, 3) := by decide +kernel
theorem dX12_tick_137 : decode cX12_tick 137 = .ok (.aload_n 0, 1) := by decide +kernel
theorem dX12_tick_138 : decode cX12_tick 138 = .ok (.getfield 525, 3) := by decide +kernel
theorem dX12_tick_141 : decode cX12_tick 141 = .ok (.iconst 0, 1) := by decide +kernel
theorem dX12_tick_142 : decode cX12_tick 142 = .ok (.bastore, 1) := by decide +kernel
theorem dX12_tick_143 : decode cX12_tick 143 = .ok (.aload_n 0, 1) := by decide +kernel
theorem dX12_tick_144 : decode cX12_tick 144 = .ok (.getfield 170, 3) := by decide +kernel
theorem dX12_tick_147 : decode cX12_tick 147 = .ok (.aload_n 0, 1) := by decide +kernel
theorem dX12_tick_148 : decode cX12_tick 148 = .ok (.getfield 525, 3) := by decide +kernel
theorem dX12_tick_151 : decode cX12_tick 151 = .ok (.aload_n 0, 1) := by decide +kernel
theorem dX12_tick_152 : decode cX12_tick 152 = .ok (.getfield 170, 3) := by decide +kernel
theorem dX12_tick_155 : decode cX12_tick 155 = .ok (.aload_n 0, 1) := by decide +kernel
theorem dX12_tick_156 : decode cX12_tick 156 = .ok (.getfield 525, 3) := by decide +kernel
theorem dX12_tick_159 : decode cX12_tick 159 = .ok (.iaload, 1) := by decide +kernel
theorem dX12_tick_160 : decode cX12_tick 160 = .ok (.iconst 1, 1) := by decide +kernel
theorem dX12_tick_161 : decode cX12_tick 161 = .ok (.iadd, 1) := by decide +kernel
theorem dX12_tick_162 : decode cX12_tick 162 = .ok (.aload_n 0, 1) := by decide +kernel
theorem dX12_tick_163 : decode cX12_tick 163 = .ok (.getfield 519, 3) := by decide +kernel
theorem dX12_tick_166 : decode cX12_tick 166 = .ok (.irem, 1) := by decide +kernel
theorem dX12_tick_167 : decode cX12_tick 167 = .ok (.iastore, 1) := by decide +kernel
theorem dX12_tick_168 : decode cX12_tick 168 = .ok (.iconst 1, 1) := by decide +kernel
theorem dX12_tick_169 : decode cX12_tick 169 = .ok (.ireturn, 1) := by decide +kernel
theorem cc_tick : Cond.code yX12_tick cX12_tick 2 (some .boolean) ∈ rf_tb := rf_at 2108 (by decide +kernel) (by decide +kernel)
theorem cw_tick : rf_wV yX12_tick cX12_tick 2 (some .boolean) 560 0 := ⟨⟨rf_at 2105 (by decide +kernel) (by decide +kernel), rf_at 2107 (by decide +kernel) (by decide +kernel), rf_sel (q := (yX12_tick, 122)) 108 (by decide +kernel) (by decide +kernel), cc_tick⟩, rfl, by decide +kernel⟩
noncomputable def bq_tick_62  (ρ : rf_S) : Option (Int32 × rf_S) := (if (ρ.1 0 108) = 0 then ix (ρ.1 0 79) 2 (ix (ρ.1 0 79) 2 (vl (rf_w ρ 48 (ρ.1 0 79).toNatClampNeg ((ρ.1 48 (ρ.1 0 79).toNatClampNeg) + (1:Int32))) (fun ρ_3 => ix (ρ_3.1 0 79) 2 (ix (ρ_3.1 0 79) 2 (vl (rf_w ρ_3 50 (ρ_3.1 0 79).toNatClampNeg ((ρ_3.1 50 (ρ_3.1 0 79).toNatClampNeg) + (1:Int32))) (fun ρ_4 => ix (ρ_4.1 0 79) 2 (ix (ρ_4.1 0 79) 2 (ix (ρ_4.1 49 (ρ_4.1 0 79).toNatClampNeg) 32 ((if (ρ_4.1 50 (ρ_4.1 0 79).toNatClampNeg) = (ρ_4.1 36 (ρ_4.1 49 (ρ_4.1 0 79).toNatClampNeg).toNatClampNeg) then ix (ρ_4.1 0 79) 2 (vl (rf_w ρ_4 50 (ρ_4.1 0 79).toNatClampNeg (0:Int32)) (fun ρ_5 => ix (ρ_5.1 0 79) 2 (vl (rf_w ρ_5 51 (ρ_5.1 0 79).toNatClampNeg (vp_nar .boolean (0:Int32))) (fun ρ_6 => ix (ρ_6.1 0 79) 2 (nz (ρ_6.1 0 64) (ix (ρ_6.1 0 79) 2 (vl (rf_w ρ_6 49 (ρ_6.1 0 79).toNatClampNeg (((ρ_6.1 49 (ρ_6.1 0 79).toNatClampNeg) + (1:Int32)) - ((ρ_6.1 49 (ρ_6.1 0 79).toNatClampNeg) + (1:Int32)) / (ρ_6.1 0 64) * (ρ_6.1 0 64))) (fun ρ_7 => some ((1:Int32), ρ_7))))))))) else some ((1:Int32), ρ_4))))))))))) else some ((0:Int32), ρ))
set_option maxHeartbeats 4000000 in
theorem wq_tick_62 (C : rf_C D p s m args meth c cX12_tick 2 (some .boolean)) {r : Int32} {ρ ρ' : rf_S} {H : Heap} {locs : List Loc} {ls : Array Slot} (h : bq_tick_62 ρ = some (r, ρ')) (G : rf_G D h0 s ρ H locs) (hl : lv_has ls 2 [(0, .ref h0)]) : W p l e ({ frames := 8, cells := 0, slots := 0, locals := 198 }) s m args below meth c H locs 0 0 (MQ below (rf_Q D h0 (some (.int r)) ρ') args s 0 0 (rf_A h0)) (F0 m 62 ls []) := by
  unfold bq_tick_62 at h
  refine lv_aload_n C.1 C.2.1 dX12_tick_62 rfl (lv_at hl 0 rfl) ?_
  refine gf_108 C G dX12_tick_63 ?_
  refine lv_if_eq (tgt := 71) C.1 C.2.1 dX12_tick_66 (by decide) (fun hc => ?_) (fun hc => ?_)
  · rw [if_pos hc] at h
    refine lv_aload_n C.1 C.2.1 dX12_tick_71 rfl (lv_at hl 0 rfl) ?_
    refine gf_80 C G dX12_tick_72 ?_
    refine lv_aload_n C.1 C.2.1 dX12_tick_75 rfl (lv_at hl 0 rfl) ?_
    refine gf_79 C G dX12_tick_76 ?_
    refine lv_dup2_11 C.1 C.2.1 dX12_tick_79 rfl rfl ?_
    obtain ⟨hi, h⟩ := ix_some h
    refine rf_iald C G 48 rfl (by decide) rfl rfl hi dX12_tick_80 ?_
    refine lv_iconst (v := (1:Int32)) C.1 C.2.1 dX12_tick_81 (by decide) ?_
    refine lv_iadd C.1 C.2.1 dX12_tick_82 ?_
    obtain ⟨hi, h⟩ := ix_some h
    refine rf_iast C G 48 rfl (by decide) rfl rfl hi dX12_tick_83 (fun H locs G => ?_)
    refine rf_nm G h (fun ρ_3 G h => ?_)
    refine lv_aload_n C.1 C.2.1 dX12_tick_84 rfl (lv_at hl 0 rfl) ?_
    refine gf_82 C G dX12_tick_85 ?_
    refine lv_aload_n C.1 C.2.1 dX12_tick_88 rfl (lv_at hl 0 rfl) ?_
    refine gf_79 C G dX12_tick_89 ?_
    refine lv_dup2_11 C.1 C.2.1 dX12_tick_92 rfl rfl ?_
    obtain ⟨hi, h⟩ := ix_some h
    refine rf_iald C G 50 rfl (by decide) rfl rfl hi dX12_tick_93 ?_
    refine lv_iconst (v := (1:Int32)) C.1 C.2.1 dX12_tick_94 (by decide) ?_
    refine lv_iadd C.1 C.2.1 dX12_tick_95 ?_
    obtain ⟨hi, h⟩ := ix_some h
    refine rf_iast C G 50 rfl (by decide) rfl rfl hi dX12_tick_96 (fun H locs G => ?_)
    refine rf_nm G h (fun ρ_4 G h => ?_)
    refine lv_aload_n C.1 C.2.1 dX12_tick_97 rfl (lv_at hl 0 rfl) ?_
    refine gf_82 C G dX12_tick_98 ?_
    refine lv_aload_n C.1 C.2.1 dX12_tick_101 rfl (lv_at hl 0 rfl) ?_
    refine gf_79 C G dX12_tick_102 ?_
    obtain ⟨hi, h⟩ := ix_some h
    refine rf_iald C G 50 rfl (by decide) rfl rfl hi dX12_tick_105 ?_
    refine lv_aload_n C.1 C.2.1 dX12_tick_106 rfl (lv_at hl 0 rfl) ?_
    refine gf_66 C G dX12_tick_107 ?_
    refine lv_aload_n C.1 C.2.1 dX12_tick_110 rfl (lv_at hl 0 rfl) ?_
    refine gf_81 C G dX12_tick_111 ?_
    refine lv_aload_n C.1 C.2.1 dX12_tick_114 rfl (lv_at hl 0 rfl) ?_
    refine gf_79 C G dX12_tick_115 ?_
    obtain ⟨hi, h⟩ := ix_some h
    refine rf_iald C G 49 rfl (by decide) rfl rfl hi dX12_tick_118 ?_
    obtain ⟨hi, h⟩ := ix_some h
    refine rf_iald C G 36 rfl (by decide) rfl rfl hi dX12_tick_119 ?_
    refine lv_icmp_ne (tgt := 168) C.1 C.2.1 dX12_tick_120 (by decide) (fun hc => ?_) (fun hc => ?_)
    · rw [if_neg hc] at h
      refine lv_iconst (v := (1:Int32)) C.1 C.2.1 dX12_tick_168 (by decide) ?_
      exact rf_zret C G h rfl dX12_tick_169
    · rw [if_pos hc] at h
      refine lv_aload_n C.1 C.2.1 dX12_tick_123 rfl (lv_at hl 0 rfl) ?_
      refine gf_82 C G dX12_tick_124 ?_
      refine lv_aload_n C.1 C.2.1 dX12_tick_127 rfl (lv_at hl 0 rfl) ?_
      refine gf_79 C G dX12_tick_128 ?_
      refine lv_iconst (v := (0:Int32)) C.1 C.2.1 dX12_tick_131 (by decide) ?_
      obtain ⟨hi, h⟩ := ix_some h
      refine rf_iast C G 50 rfl (by decide) rfl rfl hi dX12_tick_132 (fun H locs G => ?_)
      refine rf_nm G h (fun ρ_5 G h => ?_)
      refine lv_aload_n C.1 C.2.1 dX12_tick_133 rfl (lv_at hl 0 rfl) ?_
      refine gf_83 C G dX12_tick_134 ?_
      refine lv_aload_n C.1 C.2.1 dX12_tick_137 rfl (lv_at hl 0 rfl) ?_
      refine gf_79 C G dX12_tick_138 ?_
      refine lv_iconst (v := (0:Int32)) C.1 C.2.1 dX12_tick_141 (by decide) ?_
      obtain ⟨hi, h⟩ := ix_some h
      refine rf_zast C G 51 rfl (by decide) rfl rfl hi dX12_tick_142 (fun H locs G => ?_)
      refine rf_nm G h (fun ρ_6 G h => ?_)
      refine lv_aload_n C.1 C.2.1 dX12_tick_143 rfl (lv_at hl 0 rfl) ?_
      refine gf_81 C G dX12_tick_144 ?_
      refine lv_aload_n C.1 C.2.1 dX12_tick_147 rfl (lv_at hl 0 rfl) ?_
      refine gf_79 C G dX12_tick_148 ?_
      refine lv_aload_n C.1 C.2.1 dX12_tick_151 rfl (lv_at hl 0 rfl) ?_
      refine gf_81 C G dX12_tick_152 ?_
      refine lv_aload_n C.1 C.2.1 dX12_tick_155 rfl (lv_at hl 0 rfl) ?_
      refine gf_79 C G dX12_tick_156 ?_
      obtain ⟨hi, h⟩ := ix_some h
      refine rf_iald C G 49 rfl (by decide) rfl rfl hi dX12_tick_159 ?_
      refine lv_iconst (v := (1:Int32)) C.1 C.2.1 dX12_tick_160 (by decide) ?_
      refine lv_iadd C.1 C.2.1 dX12_tick_161 ?_
      refine lv_aload_n C.1 C.2.1 dX12_tick_162 rfl (lv_at hl 0 rfl) ?_
      refine gf_64 C G dX12_tick_163 ?_
      obtain ⟨hne, h⟩ := nz_some h
      refine lv_irem C.1 C.2.1 dX12_tick_166 hne ?_
      obtain ⟨hi, h⟩ := ix_some h
      refine rf_iast C G 49 rfl (by decide) rfl rfl hi dX12_tick_167 (fun H locs G => ?_)
      refine rf_nm G h (fun ρ_7 G h => ?_)
      refine lv_iconst (v := (1:Int32)) C.1 C.2.1 dX12_tick_168 (by decide) ?_
      exact rf_zret C G h rfl dX12_tick_169
  · rw [if_neg hc] at h
    refine lv_iconst (v := (0:Int32)) C.1 C.2.1 dX12_tick_69 (by decide) ?_
    exact rf_zret C G h rfl dX12_tick_70
noncomputable def bq_tick_0  (ρ : rf_S) : Option (Int32 × rf_S) := ix (ρ.1 0 79) 2 (ix (ρ.1 49 (ρ.1 0 79).toNatClampNeg) 32 (vl (ρ.1 35 (ρ.1 49 (ρ.1 0 79).toNatClampNeg).toNatClampNeg) (fun x1_1 => vl (rf_w ρ 0 108 (0:Int32)) (fun ρ_2 => (if (ρ_2.1 0 55) ≤ x1_1 then bq_tick_62 ρ_2 else ix (((8:Int32) * (ρ_2.1 0 79)) + x1_1) 16 ((if (ρ_2.1 55 (((8:Int32) * (ρ_2.1 0 79)) + x1_1).toNatClampNeg) = 0 then ix (ρ_2.1 0 79) 2 ((if (ρ_2.1 51 (ρ_2.1 0 79).toNatClampNeg) = 0 then bd1 (fq_step x1_1 ρ_2) (fun ρ_8 => bq_tick_62 ρ_8) else bq_tick_62 ρ_2)) else bq_tick_62 ρ_2)))))))
set_option maxHeartbeats 4000000 in
theorem wq_tick_0 (C : rf_C D p s m args meth c cX12_tick 2 (some .boolean)) {r : Int32} {ρ ρ' : rf_S} {H : Heap} {locs : List Loc} {ls : Array Slot} (h : bq_tick_0 ρ = some (r, ρ')) (G : rf_G D h0 s ρ H locs) (hl : lv_has ls 2 [(0, .ref h0)]) : W p l e ({ frames := 8, cells := 0, slots := 0, locals := 198 }) s m args below meth c H locs 0 0 (MQ below (rf_Q D h0 (some (.int r)) ρ') args s 0 0 (rf_A h0)) (F0 m 0 ls []) := by
  unfold bq_tick_0 at h
  refine lv_aload_n C.1 C.2.1 dX12_tick_0 rfl (lv_at hl 0 rfl) ?_
  refine gf_65 C G dX12_tick_1 ?_
  refine lv_aload_n C.1 C.2.1 dX12_tick_4 rfl (lv_at hl 0 rfl) ?_
  refine gf_81 C G dX12_tick_5 ?_
  refine lv_aload_n C.1 C.2.1 dX12_tick_8 rfl (lv_at hl 0 rfl) ?_
  refine gf_79 C G dX12_tick_9 ?_
  obtain ⟨hi, h⟩ := ix_some h
  refine rf_iald C G 49 rfl (by decide) rfl rfl hi dX12_tick_12 ?_
  obtain ⟨hi, h⟩ := ix_some h
  refine rf_iald C G 35 rfl (by decide) rfl rfl hi dX12_tick_13 ?_
  refine vt_i h (fun x1_1 h => ?_)
  refine lv_istore_n (lv' := [(1, .int x1_1), (0, .ref h0)]) C.1 C.2.1 dX12_tick_14 rfl hl (by decide) rfl (fun ls hl => ?_)
  refine lv_aload_n C.1 C.2.1 dX12_tick_15 rfl (lv_at hl 1 rfl) ?_
  refine lv_iconst (v := (0:Int32)) C.1 C.2.1 dX12_tick_16 (by decide) ?_
  refine pf_108 C G rfl rfl dX12_tick_17 (fun H locs G => ?_)
  refine rf_nm G h (fun ρ_2 G h => ?_)
  refine lv_iload_n C.1 C.2.1 dX12_tick_20 rfl (lv_at hl 0 rfl) ?_
  refine lv_aload_n C.1 C.2.1 dX12_tick_21 rfl (lv_at hl 1 rfl) ?_
  refine gf_55 C G dX12_tick_22 ?_
  refine lv_icmp_ge (tgt := 62) C.1 C.2.1 dX12_tick_25 (by decide) (fun hc => ?_) (fun hc => ?_)
  · rw [if_pos hc] at h
    exact wq_tick_62 C h G (lv_sub hl [1] rfl)
  · rw [if_neg hc] at h
    refine lv_aload_n C.1 C.2.1 dX12_tick_28 rfl (lv_at hl 1 rfl) ?_
    refine gf_87 C G dX12_tick_29 ?_
    refine lv_bipush (v := (8:Int32)) C.1 C.2.1 dX12_tick_32 (by decide) ?_
    refine lv_aload_n C.1 C.2.1 dX12_tick_34 rfl (lv_at hl 1 rfl) ?_
    refine gf_79 C G dX12_tick_35 ?_
    refine lv_imul C.1 C.2.1 dX12_tick_38 ?_
    refine lv_iload_n C.1 C.2.1 dX12_tick_39 rfl (lv_at hl 0 rfl) ?_
    refine lv_iadd C.1 C.2.1 dX12_tick_40 ?_
    obtain ⟨hi, h⟩ := ix_some h
    refine rf_zald C G 55 rfl (by decide) rfl rfl hi dX12_tick_41 ?_
    refine lv_if_ne (tgt := 62) C.1 C.2.1 dX12_tick_42 (by decide) (fun hc => ?_) (fun hc => ?_)
    · rw [if_neg hc] at h
      exact wq_tick_62 C h G (lv_sub hl [1] rfl)
    · rw [if_pos hc] at h
      refine lv_aload_n C.1 C.2.1 dX12_tick_45 rfl (lv_at hl 1 rfl) ?_
      refine gf_83 C G dX12_tick_46 ?_
      refine lv_aload_n C.1 C.2.1 dX12_tick_49 rfl (lv_at hl 1 rfl) ?_
      refine gf_79 C G dX12_tick_50 ?_
      obtain ⟨hi, h⟩ := ix_some h
      refine rf_zald C G 51 rfl (by decide) rfl rfl hi dX12_tick_53 ?_
      refine lv_if_ne (tgt := 62) C.1 C.2.1 dX12_tick_54 (by decide) (fun hc => ?_) (fun hc => ?_)
      · rw [if_neg hc] at h
        exact wq_tick_62 C h G (lv_sub hl [1] rfl)
      · rw [if_pos hc] at h
        refine lv_aload_n C.1 C.2.1 dX12_tick_57 rfl (lv_at hl 1 rfl) ?_
        refine lv_iload_n C.1 C.2.1 dX12_tick_58 rfl (lv_at hl 0 rfl) ?_
        obtain ⟨ρ_8, hq, h⟩ := bd1_some h
        refine rf_callV (rest := []) C G cw_step [.int x1_1] _ (kq_step l D h0 hq) (Nat.le_of_ble_eq_true rfl) (Nat.le_of_ble_eq_true rfl) rfl rfl hl.1 (Nat.le_of_ble_eq_true rfl) (Nat.zero_le _) (Nat.zero_le _) dX12_tick_59 (fun H locs G => ?_)
        refine W.eq (g2 := F0 m 62 ls []) rfl ?_
        exact wq_tick_62 C h G (lv_sub hl [1] rfl)
noncomputable def fq_tick  (ρ : rf_S) : Option (Int32 × rf_S) := bq_tick_0 ρ
theorem kq_tick (l : Launch) (D : rf_D) (h0 : Nat) {r : Int32} {ρ ρ' : rf_S} (h : fq_tick ρ = some (r, ρ')) : rf_Met l D h0 yX12_tick cX12_tick 2 (some .boolean) 8 198 [.ref h0] ρ (some (.int r)) ρ' :=
  rf_of rfl cc_tick (Nat.le_of_ble_eq_true rfl) (fun p e s m args below meth c ls C G hl => wq_tick_0 C h G hl)
abbrev cX12_run : ByteArray := prog_14_method_65_code
def yX12_run : MethodName := ⟨RX12, "run", "(I)I"⟩
theorem dX12_run_0 : decode cX12_run 0 = .ok (.iload_n 1, 1) := by decide +kernel
theorem dX12_run_1 : decode cX12_run 1 = .ok (.ifCond .lt 10, 3) := by decide +kernel
theorem dX12_run_4 : decode cX12_run 4 = .ok (.iload_n 1, 1) := by decide +kernel
theorem dX12_run_5 : decode cX12_run 5 = .ok (.sipush 2000, 3) := by decide +kernel
theorem dX12_run_8 : decode cX12_run 8 = .ok (.if_icmp .le 6, 3) := by decide +kernel
theorem dX12_run_11 : decode cX12_run 11 = .ok (.bipush (-2), 2) := by decide +kernel
theorem dX12_run_13 : decode cX12_run 13 = .ok (.ireturn, 1) := by decide +kernel
theorem dX12_run_14 : decode cX12_run 14 = .ok (.aload_n 0, 1) := by decide +kernel
theorem dX12_run_15 : decode cX12_run 15 = .ok (.getfield 528, 3) := by decide +kernel
theorem dX12_run_18 : decode cX12_run 18 = .ok (.ifCond .ne 6, 3) := by decide +kernel
theorem dX12_run_21 : decode cX12_run 21 = .ok (.bipush (-3), 2) := by decide +kernel
theorem dX12_run_23 : decode cX12_run 23 = .ok (.ireturn, 1) := by decide +kernel
theorem dX12_run_24 : decode cX12_run 24 = .ok (.aload_n 0, 1) := by decide +kernel
theorem dX12_run_25 : decode cX12_run 25 = .ok (.getfield 167, 3) := by decide +kernel
theorem dX12_run_28 : decode cX12_run 28 = .ok (.iconst 0, 1) := by decide +kernel
theorem dX12_run_29 : decode cX12_run 29 = .ok (.iaload, 1) := by decide +kernel
theorem dX12_run_30 : decode cX12_run 30 = .ok (.iload_n 1, 1) := by decide +kernel
theorem dX12_run_31 : decode cX12_run 31 = .ok (.iadd, 1) := by decide +kernel
theorem dX12_run_32 : decode cX12_run 32 = .ok (.ldc_w 559, 3) := by decide +kernel
theorem dX12_run_35 : decode cX12_run 35 = .ok (.if_icmp .le 6, 3) := by decide +kernel
theorem dX12_run_38 : decode cX12_run 38 = .ok (.bipush (-4), 2) := by decide +kernel
theorem dX12_run_40 : decode cX12_run 40 = .ok (.ireturn, 1) := by decide +kernel
theorem dX12_run_41 : decode cX12_run 41 = .ok (.aload_n 0, 1) := by decide +kernel
theorem dX12_run_42 : decode cX12_run 42 = .ok (.iconst 0, 1) := by decide +kernel
theorem dX12_run_43 : decode cX12_run 43 = .ok (.putfield 525, 3) := by decide +kernel
theorem dX12_run_46 : decode cX12_run 46 = .ok (.iconst 0, 1) := by decide +kernel
theorem dX12_run_47 : decode cX12_run 47 = .ok (.istore_n 2, 1) := by decide +kernel
theorem dX12_run_48 : decode cX12_run 48 = .ok (.iload_n 2, 1) := by decide +kernel
theorem dX12_run_49 : decode cX12_run 49 = .ok (.iload_n 1, 1) := by decide +kernel
theorem dX12_run_50 : decode cX12_run 50 = .ok (.if_icmp .ge 23, 3) := by decide +kernel
theorem dX12_run_53 : decode cX12_run 53 = .ok (.aload_n 0, 1) := by decide +kernel
theorem dX12_run_54 : decode cX12_run 54 = .ok (.getfield 528, 3) := by decide +kernel
theorem dX12_run_57 : decode cX12_run 57 = .ok (.ifCond .eq 16, 3) := by decide +kernel
theorem dX12_run_60 : decode cX12_run 60 = .ok (.aload_n 0, 1) := by decide +kernel
theorem dX12_run_61 : decode cX12_run 61 = .ok (.invokevirtual 560, 3) := by decide +kernel
theorem dX12_run_64 : decode cX12_run 64 = .ok (.ifCond .eq 9, 3) := by decide +kernel
theorem dX12_run_67 : decode cX12_run 67 = .ok (.iinc 2 1, 3) := by decide +kernel
theorem dX12_run_70 : decode cX12_run 70 = .ok (.goto (-22), 3) := by decide +kernel
theorem dX12_run_73 : decode cX12_run 73 = .ok (.iload_n 2, 1) := by decide +kernel
theorem dX12_run_74 : decode cX12_run 74 = .ok (.ireturn, 1) := by decide +kernel
theorem cc_run : Cond.code yX12_run cX12_run 3 (some .int) ∈ rf_tb := rf_at 2103 (by decide +kernel) (by decide +kernel)
theorem kc_559 : Cond.constant RX12 559 (60000 : Int32) ∈ rf_tb := rf_at 2104 (by decide +kernel) (by decide +kernel)
noncomputable def lq_run_48 (x1 : Int32) (x2 : Int32) (ρ : rf_S) : Option ((Int32 × rf_S) ⊕ (Int32 × rf_S)) := (if x1 ≤ x2 then some (.inr (x2, ρ)) else (if (ρ.1 0 51) = 0 then some (.inr (x2, ρ)) else bd2 (fq_tick ρ) (fun r_3 ρ_2 => (if r_3 = 0 then some (.inr (x2, ρ_2)) else vl (x2 + (1:Int32)) (fun x2_4 => some (.inl (x2_4, ρ_2)))))))
noncomputable def eq_run_48 (x1 : Int32) (x2 : Int32) (ρ : rf_S) : Option (Int32 × rf_S) := some (x2, ρ)
noncomputable def bq_run_48 (x1 : Int32) (x2 : Int32) (ρ : rf_S) : Option (Int32 × rf_S) := (lp (fun z : (Int32 × rf_S) => lq_run_48 x1 z.1 z.2) (x2, ρ)).bind (fun z => eq_run_48 x1 z.1 z.2)
set_option maxHeartbeats 4000000 in
theorem wq_run_48 (C : rf_C D p s m args meth c cX12_run 3 (some .int)) {r : Int32} {x1 : Int32} {x2 : Int32} {ρ ρ' : rf_S} {H : Heap} {locs : List Loc} {ls : Array Slot} (h : bq_run_48 x1 x2 ρ = some (r, ρ')) (G : rf_G D h0 s ρ H locs) (hl : lv_has ls 3 [(0, .ref h0), (1, .int x1), (2, .int x2)]) : W p l e ({ frames := 9, cells := 0, slots := 0, locals := 219 }) s m args below meth c H locs 0 0 (MQ below (rf_Q D h0 (some (.int r)) ρ') args s 0 0 (rf_A h0)) (F0 m 48 ls []) := by
  unfold bq_run_48 at h
  obtain ⟨y, hy, h⟩ := bd_some h
  have hE : (fun z : (Int32 × rf_S) => ∀ (H : Heap) (locs : List Loc) (ls : Array Slot), rf_G D h0 s z.2 H locs → lv_has ls 3 [(0, .ref h0), (1, .int x1), (2, .int z.1)] → W p l e ({ frames := 9, cells := 0, slots := 0, locals := 219 }) s m args below meth c H locs 0 0 (MQ below (rf_Q D h0 (some (.int r)) ρ') args s 0 0 (rf_A h0)) (F0 m 73 ls [])) y := by
    intro H locs ls G hl
    obtain ⟨x2, ρ⟩ := y
    dsimp only at h G hl
    unfold eq_run_48 at h
    refine lv_iload_n C.1 C.2.1 dX12_run_73 rfl (lv_at hl 2 rfl) ?_
    exact rf_iret C G h dX12_run_74
  refine lp_recE (fun z : (Int32 × rf_S) => ∀ (H : Heap) (locs : List Loc) (ls : Array Slot), rf_G D h0 s z.2 H locs → lv_has ls 3 [(0, .ref h0), (1, .int x1), (2, .int z.1)] → W p l e ({ frames := 9, cells := 0, slots := 0, locals := 219 }) s m args below meth c H locs 0 0 (MQ below (rf_Q D h0 (some (.int r)) ρ') args s 0 0 (rf_A h0)) (F0 m 48 ls [])) (fun z : (Int32 × rf_S) => ∀ (H : Heap) (locs : List Loc) (ls : Array Slot), rf_G D h0 s z.2 H locs → lv_has ls 3 [(0, .ref h0), (1, .int x1), (2, .int z.1)] → W p l e ({ frames := 9, cells := 0, slots := 0, locals := 219 }) s m args below meth c H locs 0 0 (MQ below (rf_Q D h0 (some (.int r)) ρ') args s 0 0 (rf_A h0)) (F0 m 73 ls [])) ?_ _ _ hy hE _ _ _ G hl
  clear hE hy G hl h
  intro z o h hP H locs ls G hl
  obtain ⟨x2, ρ⟩ := z
  dsimp only at h G hl
  unfold lq_run_48 at h
  refine lv_iload_n C.1 C.2.1 dX12_run_48 rfl (lv_at hl 2 rfl) ?_
  refine lv_iload_n C.1 C.2.1 dX12_run_49 rfl (lv_at hl 1 rfl) ?_
  refine lv_icmp_ge (tgt := 73) C.1 C.2.1 dX12_run_50 (by decide) (fun hc => ?_) (fun hc => ?_)
  · rw [if_pos hc] at h
    cases h
    exact hP _ _ _ G (lv_sub hl [0, 1, 2] rfl)
  · rw [if_neg hc] at h
    refine lv_aload_n C.1 C.2.1 dX12_run_53 rfl (lv_at hl 0 rfl) ?_
    refine gf_51 C G dX12_run_54 ?_
    refine lv_if_eq (tgt := 73) C.1 C.2.1 dX12_run_57 (by decide) (fun hc => ?_) (fun hc => ?_)
    · rw [if_pos hc] at h
      cases h
      exact hP _ _ _ G (lv_sub hl [0, 1, 2] rfl)
    · rw [if_neg hc] at h
      refine lv_aload_n C.1 C.2.1 dX12_run_60 rfl (lv_at hl 0 rfl) ?_
      obtain ⟨r_3, ρ_2, hq, h⟩ := bd2_some h
      refine rf_callV (rest := []) C G cw_tick [] _ (kq_tick l D h0 hq) (Nat.le_of_ble_eq_true rfl) (Nat.le_of_ble_eq_true rfl) rfl rfl hl.1 (Nat.le_of_ble_eq_true rfl) (Nat.zero_le _) (Nat.zero_le _) dX12_run_61 (fun H locs G => ?_)
      refine W.eq (g2 := F0 m 64 ls [.int r_3]) rfl ?_
      refine lv_if_eq (tgt := 73) C.1 C.2.1 dX12_run_64 (by decide) (fun hc => ?_) (fun hc => ?_)
      · rw [if_pos hc] at h
        cases h
        exact hP _ _ _ G (lv_sub hl [0, 1, 2] rfl)
      · rw [if_neg hc] at h
        refine vl_ex h (fun x2_4 ey h => ?_)
        refine lv_iinc (v := x2_4) (lv' := [(2, .int x2_4), (0, .ref h0), (1, .int x1)]) C.1 C.2.1 dX12_run_67 hl (k := 2) rfl (by rw [ey]; rfl) (by decide) rfl (fun ls hl => ?_)
        refine lv_goto (tgt := 48) C.1 C.2.1 dX12_run_70 (by decide) ?_
        cases h
        exact hP _ _ _ G (lv_sub hl [1, 2, 0] rfl)
noncomputable def bq_run_0 (x1 : Int32) (ρ : rf_S) : Option (Int32 × rf_S) := (if x1 < 0 then some ((-2:Int32), ρ) else (if x1 ≤ (2000:Int32) then (if (ρ.1 0 51) = 0 then some ((-3:Int32), ρ) else ix (0:Int32) 2 ((if ((ρ.1 48 (0:Int32).toNatClampNeg) + x1) ≤ (60000:Int32) then vl (rf_w ρ 0 79 (0:Int32)) (fun ρ_1 => bq_run_48 x1 (0:Int32) ρ_1) else some ((-4:Int32), ρ)))) else some ((-2:Int32), ρ)))
set_option maxHeartbeats 4000000 in
theorem wq_run_0 (C : rf_C D p s m args meth c cX12_run 3 (some .int)) {r : Int32} {x1 : Int32} {ρ ρ' : rf_S} {H : Heap} {locs : List Loc} {ls : Array Slot} (h : bq_run_0 x1 ρ = some (r, ρ')) (G : rf_G D h0 s ρ H locs) (hl : lv_has ls 3 [(0, .ref h0), (1, .int x1)]) : W p l e ({ frames := 9, cells := 0, slots := 0, locals := 219 }) s m args below meth c H locs 0 0 (MQ below (rf_Q D h0 (some (.int r)) ρ') args s 0 0 (rf_A h0)) (F0 m 0 ls []) := by
  unfold bq_run_0 at h
  refine lv_iload_n C.1 C.2.1 dX12_run_0 rfl (lv_at hl 1 rfl) ?_
  refine lv_if_lt (tgt := 11) C.1 C.2.1 dX12_run_1 (by decide) (fun hc => ?_) (fun hc => ?_)
  · rw [if_pos hc] at h
    refine lv_bipush (v := (-2:Int32)) C.1 C.2.1 dX12_run_11 (by decide) ?_
    exact rf_iret C G h dX12_run_13
  · rw [if_neg hc] at h
    refine lv_iload_n C.1 C.2.1 dX12_run_4 rfl (lv_at hl 1 rfl) ?_
    refine lv_sipush (v := (2000:Int32)) C.1 C.2.1 dX12_run_5 (by decide) ?_
    refine lv_icmp_le (tgt := 14) C.1 C.2.1 dX12_run_8 (by decide) (fun hc => ?_) (fun hc => ?_)
    · rw [if_pos hc] at h
      refine lv_aload_n C.1 C.2.1 dX12_run_14 rfl (lv_at hl 0 rfl) ?_
      refine gf_51 C G dX12_run_15 ?_
      refine lv_if_ne (tgt := 24) C.1 C.2.1 dX12_run_18 (by decide) (fun hc => ?_) (fun hc => ?_)
      · rw [if_neg hc] at h
        refine lv_aload_n C.1 C.2.1 dX12_run_24 rfl (lv_at hl 0 rfl) ?_
        refine gf_80 C G dX12_run_25 ?_
        refine lv_iconst (v := (0:Int32)) C.1 C.2.1 dX12_run_28 (by decide) ?_
        obtain ⟨hi, h⟩ := ix_some h
        refine rf_iald C G 48 rfl (by decide) rfl rfl hi dX12_run_29 ?_
        refine lv_iload_n C.1 C.2.1 dX12_run_30 rfl (lv_at hl 1 rfl) ?_
        refine lv_iadd C.1 C.2.1 dX12_run_31 ?_
        refine lv_ldcw (v := (60000:Int32)) C.1 C.2.1 C.2.2.2.1 (C.2.2.2.2.1 _ kc_559) dX12_run_32 ?_
        refine lv_icmp_le (tgt := 41) C.1 C.2.1 dX12_run_35 (by decide) (fun hc => ?_) (fun hc => ?_)
        · rw [if_pos hc] at h
          refine lv_aload_n C.1 C.2.1 dX12_run_41 rfl (lv_at hl 0 rfl) ?_
          refine lv_iconst (v := (0:Int32)) C.1 C.2.1 dX12_run_42 (by decide) ?_
          refine pf_79 C G dX12_run_43 (fun H locs G => ?_)
          refine rf_nm G h (fun ρ_1 G h => ?_)
          refine lv_iconst (v := (0:Int32)) C.1 C.2.1 dX12_run_46 (by decide) ?_
          refine lv_istore_n (lv' := [(2, .int (0:Int32)), (0, .ref h0), (1, .int x1)]) C.1 C.2.1 dX12_run_47 rfl hl (by decide) rfl (fun ls hl => ?_)
          exact wq_run_48 C h G (lv_sub hl [1, 2, 0] rfl)
        · rw [if_neg hc] at h
          refine lv_bipush (v := (-4:Int32)) C.1 C.2.1 dX12_run_38 (by decide) ?_
          exact rf_iret C G h dX12_run_40
      · rw [if_pos hc] at h
        refine lv_bipush (v := (-3:Int32)) C.1 C.2.1 dX12_run_21 (by decide) ?_
        exact rf_iret C G h dX12_run_23
    · rw [if_neg hc] at h
      refine lv_bipush (v := (-2:Int32)) C.1 C.2.1 dX12_run_11 (by decide) ?_
      exact rf_iret C G h dX12_run_13
noncomputable def fq_run (x1 : Int32) (ρ : rf_S) : Option (Int32 × rf_S) := bq_run_0 x1 ρ
theorem kq_run (l : Launch) (D : rf_D) (h0 : Nat) {r : Int32} {x1 : Int32} {ρ ρ' : rf_S} (h : fq_run x1 ρ = some (r, ρ')) : rf_Met l D h0 yX12_run cX12_run 3 (some .int) 9 219 [.ref h0, .int x1] ρ (some (.int r)) ρ' :=
  rf_of rfl cc_run (Nat.le_of_ble_eq_true rfl) (fun p e s m args below meth c ls C G hl => wq_run_0 C h G hl)
end RQ13
