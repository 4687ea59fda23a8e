section RQ6
variable {p : Program} {l : Launch} {e : Env} {s : State} {m : MethodId} {args : Array Value} {below : List Frame} {meth : Method} {c : Code} {D : rf_D} {h0 : Nat}
abbrev cX12_readConfig : ByteArray := prog_14_method_57_code
def yX12_readConfig : MethodName := ⟨RX12, "readConfig", "()Z"⟩
theorem dX12_readConfig_0 : decode cX12_readConfig 0 = .ok (.aload_n 0, 1) := by decide +kernel
theorem dX12_readConfig_1 : decode cX12_readConfig 1 = .ok (.iconst 0, 1) := by decide +kernel
theorem dX12_readConfig_2 : decode cX12_readConfig 2 = .ok (.putfield 504, 3) := by decide +kernel
theorem dX12_readConfig_5 : decode cX12_readConfig 5 = .ok (.aload_n 0, 1) := by decide +kernel
theorem dX12_readConfig_6 : decode cX12_readConfig 6 = .ok (.iconst 0, 1) := by decide +kernel
theorem dX12_readConfig_7 : decode cX12_readConfig 7 = .ok (.putfield 500, 3) := by decide +kernel
theorem dX12_readConfig_10 : decode cX12_readConfig 10 = .ok (.aload_n 0, 1) := by decide +kernel
theorem dX12_readConfig_11 : decode cX12_readConfig 11 = .ok (.iconst 1, 1) := by decide +kernel
theorem dX12_readConfig_12 : decode cX12_readConfig 12 = .ok (.bipush 8, 2) := by decide +kernel
theorem dX12_readConfig_14 : decode cX12_readConfig 14 = .ok (.invokevirtual 507, 3) := by decide +kernel
theorem dX12_readConfig_17 : decode cX12_readConfig 17 = .ok (.istore_n 1, 1) := by decide +kernel
theorem dX12_readConfig_18 : decode cX12_readConfig 18 = .ok (.iconst 0, 1) := by decide +kernel
theorem dX12_readConfig_19 : decode cX12_readConfig 19 = .ok (.istore_n 2, 1) := by decide +kernel
theorem dX12_readConfig_20 : decode cX12_readConfig 20 = .ok (.iconst 0, 1) := by decide +kernel
theorem dX12_readConfig_21 : decode cX12_readConfig 21 = .ok (.istore_n 3, 1) := by decide +kernel
theorem dX12_readConfig_22 : decode cX12_readConfig 22 = .ok (.iload_n 3, 1) := by decide +kernel
theorem dX12_readConfig_23 : decode cX12_readConfig 23 = .ok (.iload_n 1, 1) := by decide +kernel
theorem dX12_readConfig_24 : decode cX12_readConfig 24 = .ok (.if_icmp .ge 197, 3) := by decide +kernel
theorem dX12_readConfig_27 : decode cX12_readConfig 27 = .ok (.aload_n 0, 1) := by decide +kernel
theorem dX12_readConfig_28 : decode cX12_readConfig 28 = .ok (.getfield 500, 3) := by decide +kernel
theorem dX12_readConfig_31 : decode cX12_readConfig 31 = .ok (.ifCond .ne 190, 3) := by decide +kernel
theorem dX12_readConfig_34 : decode cX12_readConfig 34 = .ok (.aload_n 0, 1) := by decide +kernel
theorem dX12_readConfig_35 : decode cX12_readConfig 35 = .ok (.iconst 0, 1) := by decide +kernel
theorem dX12_readConfig_36 : decode cX12_readConfig 36 = .ok (.sipush 8176, 3) := by decide +kernel
theorem dX12_readConfig_39 : decode cX12_readConfig 39 = .ok (.invokevirtual 507, 3) := by decide +kernel
theorem dX12_readConfig_42 : decode cX12_readConfig 42 = .ok (.istore 4, 2) := by decide +kernel
theorem dX12_readConfig_44 : decode cX12_readConfig 44 = .ok (.aload_n 0, 1) := by decide +kernel
theorem dX12_readConfig_45 : decode cX12_readConfig 45 = .ok (.bipush 16, 2) := by decide +kernel
theorem dX12_readConfig_47 : decode cX12_readConfig 47 = .ok (.sipush 2048, 3) := by decide +kernel
theorem dX12_readConfig_50 : decode cX12_readConfig 50 = .ok (.invokevirtual 507, 3) := by decide +kernel
theorem dX12_readConfig_53 : decode cX12_readConfig 53 = .ok (.istore 5, 2) := by decide +kernel
theorem dX12_readConfig_55 : decode cX12_readConfig 55 = .ok (.iload 4, 2) := by decide +kernel
theorem dX12_readConfig_57 : decode cX12_readConfig 57 = .ok (.iload 5, 2) := by decide +kernel
theorem dX12_readConfig_59 : decode cX12_readConfig 59 = .ok (.iadd, 1) := by decide +kernel
theorem dX12_readConfig_60 : decode cX12_readConfig 60 = .ok (.sipush 8192, 3) := by decide +kernel
theorem dX12_readConfig_63 : decode cX12_readConfig 63 = .ok (.if_icmp .le 7, 3) := by decide +kernel
theorem dX12_readConfig_66 : decode cX12_readConfig 66 = .ok (.iconst 1, 1) := by decide +kernel
theorem dX12_readConfig_67 : decode cX12_readConfig 67 = .ok (.goto 4, 3) := by decide +kernel
theorem dX12_readConfig_70 : decode cX12_readConfig 70 = .ok (.iconst 0, 1) := by decide +kernel
theorem dX12_readConfig_71 : decode cX12_readConfig 71 = .ok (.istore 6, 2) := by decide +kernel
theorem dX12_readConfig_73 : decode cX12_readConfig 73 = .ok (.iconst 0, 1) := by decide +kernel
theorem dX12_readConfig_74 : decode cX12_readConfig 74 = .ok (.istore 7, 2) := by decide +kernel
theorem dX12_readConfig_76 : decode cX12_readConfig 76 = .ok (.iload 7, 2) := by decide +kernel
theorem dX12_readConfig_78 : decode cX12_readConfig 78 = .ok (.iload_n 3, 1) := by decide +kernel
theorem dX12_readConfig_79 : decode cX12_readConfig 79 = .ok (.if_icmp .ge 64, 3) := by decide +kernel
theorem dX12_readConfig_82 : decode cX12_readConfig 82 = .ok (.iload 6, 2) := by decide +kernel
theorem dX12_readConfig_84 : decode cX12_readConfig 84 = .ok (.ifCond .ne 46, 3) := by decide +kernel
theorem dX12_readConfig_87 : decode cX12_readConfig 87 = .ok (.iload 4, 2) := by decide +kernel
theorem dX12_readConfig_89 : decode cX12_readConfig 89 = .ok (.aload_n 0, 1) := by decide +kernel
theorem dX12_readConfig_90 : decode cX12_readConfig 90 = .ok (.getfield 260, 3) := by decide +kernel
theorem dX12_readConfig_93 : decode cX12_readConfig 93 = .ok (.iconst 3, 1) := by decide +kernel
theorem dX12_readConfig_94 : decode cX12_readConfig 94 = .ok (.iload 7, 2) := by decide +kernel
theorem dX12_readConfig_96 : decode cX12_readConfig 96 = .ok (.imul, 1) := by decide +kernel
theorem dX12_readConfig_97 : decode cX12_readConfig 97 = .ok (.iaload, 1) := by decide +kernel
theorem dX12_readConfig_98 : decode cX12_readConfig 98 = .ok (.aload_n 0, 1) := by decide +kernel
theorem dX12_readConfig_99 : decode cX12_readConfig 99 = .ok (.getfield 260, 3) := by decide +kernel
theorem dX12_readConfig_102 : decode cX12_readConfig 102 = .ok (.iconst 3, 1) := by decide +kernel
theorem dX12_readConfig_103 : decode cX12_readConfig 103 = .ok (.iload 7, 2) := by decide +kernel
theorem dX12_readConfig_105 : decode cX12_readConfig 105 = .ok (.imul, 1) := by decide +kernel
theorem dX12_readConfig_106 : decode cX12_readConfig 106 = .ok (.iconst 1, 1) := by decide +kernel
theorem dX12_readConfig_107 : decode cX12_readConfig 107 = .ok (.iadd, 1) := by decide +kernel
theorem dX12_readConfig_108 : decode cX12_readConfig 108 = .ok (.iaload, 1) := by decide +kernel
theorem dX12_readConfig_109 : decode cX12_readConfig 109 = .ok (.iadd, 1) := by decide +kernel
theorem dX12_readConfig_110 : decode cX12_readConfig 110 = .ok (.if_icmp .ge 24, 3) := by decide +kernel
theorem dX12_readConfig_113 : decode cX12_readConfig 113 = .ok (.aload_n 0, 1) := by decide +kernel
theorem dX12_readConfig_114 : decode cX12_readConfig 114 = .ok (.getfield 260, 3) := by decide +kernel
theorem dX12_readConfig_117 : decode cX12_readConfig 117 = .ok (.iconst 3, 1) := by decide +kernel
theorem dX12_readConfig_118 : decode cX12_readConfig 118 = .ok (.iload 7, 2) := by decide +kernel
theorem dX12_readConfig_120 : decode cX12_readConfig 120 = .ok (.imul, 1) := by decide +kernel
theorem dX12_readConfig_121 : decode cX12_readConfig 121 = .ok (.iaload, 1) := by decide +kernel
theorem dX12_readConfig_122 : decode cX12_readConfig 122 = .ok (.iload 4, 2) := by decide +kernel
theorem dX12_readConfig_124 : decode cX12_readConfig 124 = .ok (.iload 5, 2) := by decide +kernel
theorem dX12_readConfig_126 : decode cX12_readConfig 126 = .ok (.iadd, 1) := by decide +kernel
theorem dX12_readConfig_127 : decode cX12_readConfig 127 = .ok (.if_icmp .ge 7, 3) := by decide +kernel
theorem dX12_readConfig_130 : decode cX12_readConfig 130 = .ok (.iconst 1, 1) := by decide +kernel
theorem dX12_readConfig_131 : decode cX12_readConfig 131 = .ok (.goto 4, 3) := by decide +kernel
theorem dX12_readConfig_134 : decode cX12_readConfig 134 = .ok (.iconst 0, 1) := by decide +kernel
theorem dX12_readConfig_135 : decode cX12_readConfig 135 = .ok (.istore 6, 2) := by decide +kernel
theorem dX12_readConfig_137 : decode cX12_readConfig 137 = .ok (.iinc 7 1, 3) := by decide +kernel
theorem dX12_readConfig_140 : decode cX12_readConfig 140 = .ok (.goto (-64), 3) := by decide +kernel
theorem dX12_readConfig_143 : decode cX12_readConfig 143 = .ok (.aload_n 0, 1) := by decide +kernel
theorem dX12_readConfig_144 : decode cX12_readConfig 144 = .ok (.iload 6, 2) := by decide +kernel
theorem dX12_readConfig_146 : decode cX12_readConfig 146 = .ok (.invokevirtual 510, 3) := by decide +kernel
theorem dX12_readConfig_149 : decode cX12_readConfig 149 = .ok (.aload_n 0, 1) := by decide +kernel
theorem dX12_readConfig_150 : decode cX12_readConfig 150 = .ok (.iconst 0, 1) := by decide +kernel
theorem dX12_readConfig_151 : decode cX12_readConfig 151 = .ok (.bipush 8, 2) := by decide +kernel
theorem dX12_readConfig_153 : decode cX12_readConfig 153 = .ok (.invokevirtual 507, 3) := by decide +kernel
theorem dX12_readConfig_156 : decode cX12_readConfig 156 = .ok (.istore 7, 2) := by decide +kernel
theorem dX12_readConfig_158 : decode cX12_readConfig 158 = .ok (.aload_n 0, 1) := by decide +kernel
theorem dX12_readConfig_159 : decode cX12_readConfig 159 = .ok (.iload_n 2, 1) := by decide +kernel
theorem dX12_readConfig_160 : decode cX12_readConfig 160 = .ok (.iload 7, 2) := by decide +kernel
theorem dX12_readConfig_162 : decode cX12_readConfig 162 = .ok (.iadd, 1) := by decide +kernel
theorem dX12_readConfig_163 : decode cX12_readConfig 163 = .ok (.bipush 32, 2) := by decide +kernel
theorem dX12_readConfig_165 : decode cX12_readConfig 165 = .ok (.if_icmp .le 7, 3) := by decide +kernel
theorem dX12_readConfig_168 : decode cX12_readConfig 168 = .ok (.iconst 1, 1) := by decide +kernel
theorem dX12_readConfig_169 : decode cX12_readConfig 169 = .ok (.goto 4, 3) := by decide +kernel
theorem dX12_readConfig_172 : decode cX12_readConfig 172 = .ok (.iconst 0, 1) := by decide +kernel
theorem dX12_readConfig_173 : decode cX12_readConfig 173 = .ok (.invokevirtual 510, 3) := by decide +kernel
theorem dX12_readConfig_176 : decode cX12_readConfig 176 = .ok (.iload_n 2, 1) := by decide +kernel
theorem dX12_readConfig_177 : decode cX12_readConfig 177 = .ok (.iload 7, 2) := by decide +kernel
theorem dX12_readConfig_179 : decode cX12_readConfig 179 = .ok (.iadd, 1) := by decide +kernel
theorem dX12_readConfig_180 : decode cX12_readConfig 180 = .ok (.istore_n 2, 1) := by decide +kernel
theorem dX12_readConfig_181 : decode cX12_readConfig 181 = .ok (.aload_n 0, 1) := by decide +kernel
theorem dX12_readConfig_182 : decode cX12_readConfig 182 = .ok (.getfield 260, 3) := by decide +kernel
theorem dX12_readConfig_185 : decode cX12_readConfig 185 = .ok (.iconst 3, 1) := by decide +kernel
theorem dX12_readConfig_186 : decode cX12_readConfig 186 = .ok (.iload_n 3, 1) := by decide +kernel
theorem dX12_readConfig_187 : decode cX12_readConfig 187 = .ok (.imul, 1) := by decide +kernel
theorem dX12_readConfig_188 : decode cX12_readConfig 188 = .ok (.iload 4, 2) := by decide +kernel
theorem dX12_readConfig_190 : decode cX12_readConfig 190 = .ok (.iastore, 1) := by decide +kernel
theorem dX12_readConfig_191 : decode cX12_readConfig 191 = .ok (.aload_n 0, 1) := by decide +kernel
theorem dX12_readConfig_192 : decode cX12_readConfig 192 = .ok (.getfield 260, 3) := by decide +kernel
theorem dX12_readConfig_195 : decode cX12_readConfig 195 = .ok (.iconst 3, 1) := by decide +kernel
theorem dX12_readConfig_196 : decode cX12_readConfig 196 = .ok (.iload_n 3, 1) := by decide +kernel
theorem dX12_readConfig_197 : decode cX12_readConfig 197 = .ok (.imul, 1) := by decide +kernel
theorem dX12_readConfig_198 : decode cX12_readConfig 198 = .ok (.iconst 1, 1) := by decide +kernel
theorem dX12_readConfig_199 : decode cX12_readConfig 199 = .ok (.iadd, 1) := by decide +kernel
theorem dX12_readConfig_200 : decode cX12_readConfig 200 = .ok (.iload 5, 2) := by decide +kernel
theorem dX12_readConfig_202 : decode cX12_readConfig 202 = .ok (.iastore, 1) := by decide +kernel
theorem dX12_readConfig_203 : decode cX12_readConfig 203 = .ok (.aload_n 0, 1) := by decide +kernel
theorem dX12_readConfig_204 : decode cX12_readConfig 204 = .ok (.getfield 260, 3) := by decide +kernel
theorem dX12_readConfig_207 : decode cX12_readConfig 207 = .ok (.iconst 3, 1) := by decide +kernel
theorem dX12_readConfig_208 : decode cX12_readConfig 208 = .ok (.iload_n 3, 1) := by decide +kernel
theorem dX12_readConfig_209 : decode cX12_readConfig 209 = .ok (.imul, 1) := by decide +kernel
theorem dX12_readConfig_210 : decode cX12_readConfig 210 = .ok (.iconst 2, 1) := by decide +kernel
theorem dX12_readConfig_211 : decode cX12_readConfig 211 = .ok (.iadd, 1) := by decide +kernel
theorem dX12_readConfig_212 : decode cX12_readConfig 212 = .ok (.iload 7, 2) := by decide +kernel
theorem dX12_readConfig_214 : decode cX12_readConfig 214 = .ok (.iastore, 1) := by decide +kernel
theorem dX12_readConfig_215 : decode cX12_readConfig 215 = .ok (.iinc 3 1, 3) := by decide +kernel
theorem dX12_readConfig_218 : decode cX12_readConfig 218 = .ok (.goto (-196), 3) := by decide +kernel
theorem dX12_readConfig_221 : decode cX12_readConfig 221 = .ok (.aload_n 0, 1) := by decide +kernel
theorem dX12_readConfig_222 : decode cX12_readConfig 222 = .ok (.iconst 0, 1) := by decide +kernel
theorem dX12_readConfig_223 : decode cX12_readConfig 223 = .ok (.bipush 16, 2) := by decide +kernel
theorem dX12_readConfig_225 : decode cX12_readConfig 225 = .ok (.invokevirtual 507, 3) := by decide +kernel
theorem dX12_readConfig_228 : decode cX12_readConfig 228 = .ok (.istore_n 3, 1) := by decide +kernel
theorem dX12_readConfig_229 : decode cX12_readConfig 229 = .ok (.iconst 0, 1) := by decide +kernel
theorem dX12_readConfig_230 : decode cX12_readConfig 230 = .ok (.istore 4, 2) := by decide +kernel
theorem dX12_readConfig_232 : decode cX12_readConfig 232 = .ok (.iload 4, 2) := by decide +kernel
theorem dX12_readConfig_234 : decode cX12_readConfig 234 = .ok (.iload_n 3, 1) := by decide +kernel
theorem dX12_readConfig_235 : decode cX12_readConfig 235 = .ok (.if_icmp .ge 99, 3) := by decide +kernel
theorem dX12_readConfig_238 : decode cX12_readConfig 238 = .ok (.aload_n 0, 1) := by decide +kernel
theorem dX12_readConfig_239 : decode cX12_readConfig 239 = .ok (.getfield 500, 3) := by decide +kernel
theorem dX12_readConfig_242 : decode cX12_readConfig 242 = .ok (.ifCond .ne 92, 3) := by decide +kernel
theorem dX12_readConfig_245 : decode cX12_readConfig 245 = .ok (.aload_n 0, 1) := by decide +kernel
theorem dX12_readConfig_246 : decode cX12_readConfig 246 = .ok (.iconst 0, 1) := by decide +kernel
theorem dX12_readConfig_247 : decode cX12_readConfig 247 = .ok (.iload_n 1, 1) := by decide +kernel
theorem dX12_readConfig_248 : decode cX12_readConfig 248 = .ok (.iconst 1, 1) := by decide +kernel
theorem dX12_readConfig_249 : decode cX12_readConfig 249 = .ok (.isub, 1) := by decide +kernel
theorem dX12_readConfig_250 : decode cX12_readConfig 250 = .ok (.invokevirtual 507, 3) := by decide +kernel
theorem dX12_readConfig_253 : decode cX12_readConfig 253 = .ok (.istore 5, 2) := by decide +kernel
theorem dX12_readConfig_255 : decode cX12_readConfig 255 = .ok (.aload_n 0, 1) := by decide +kernel
theorem dX12_readConfig_256 : decode cX12_readConfig 256 = .ok (.iconst 0, 1) := by decide +kernel
theorem dX12_readConfig_257 : decode cX12_readConfig 257 = .ok (.iload_n 1, 1) := by decide +kernel
theorem dX12_readConfig_258 : decode cX12_readConfig 258 = .ok (.iconst 1, 1) := by decide +kernel
theorem dX12_readConfig_259 : decode cX12_readConfig 259 = .ok (.isub, 1) := by decide +kernel
theorem dX12_readConfig_260 : decode cX12_readConfig 260 = .ok (.invokevirtual 507, 3) := by decide +kernel
theorem dX12_readConfig_263 : decode cX12_readConfig 263 = .ok (.istore 6, 2) := by decide +kernel
theorem dX12_readConfig_265 : decode cX12_readConfig 265 = .ok (.aload_n 0, 1) := by decide +kernel
theorem dX12_readConfig_266 : decode cX12_readConfig 266 = .ok (.iload 6, 2) := by decide +kernel
theorem dX12_readConfig_268 : decode cX12_readConfig 268 = .ok (.iload 5, 2) := by decide +kernel
theorem dX12_readConfig_270 : decode cX12_readConfig 270 = .ok (.if_icmp .ne 7, 3) := by decide +kernel
theorem dX12_readConfig_273 : decode cX12_readConfig 273 = .ok (.iconst 1, 1) := by decide +kernel
theorem dX12_readConfig_274 : decode cX12_readConfig 274 = .ok (.goto 4, 3) := by decide +kernel
theorem dX12_readConfig_277 : decode cX12_readConfig 277 = .ok (.iconst 0, 1) := by decide +kernel
theorem dX12_readConfig_278 : decode cX12_readConfig 278 = .ok (.invokevirtual 510, 3) := by decide +kernel
theorem dX12_readConfig_281 : decode cX12_readConfig 281 = .ok (.aload_n 0, 1) := by decide +kernel
theorem dX12_readConfig_282 : decode cX12_readConfig 282 = .ok (.getfield 260, 3) := by decide +kernel
theorem dX12_readConfig_285 : decode cX12_readConfig 285 = .ok (.bipush 24, 2) := by decide +kernel
theorem dX12_readConfig_287 : decode cX12_readConfig 287 = .ok (.iconst 3, 1) := by decide +kernel
theorem dX12_readConfig_288 : decode cX12_readConfig 288 = .ok (.iload 4, 2) := by decide +kernel
theorem dX12_readConfig_290 : decode cX12_readConfig 290 = .ok (.imul, 1) := by decide +kernel
theorem dX12_readConfig_291 : decode cX12_readConfig 291 = .ok (.iadd, 1) := by decide +kernel
theorem dX12_readConfig_292 : decode cX12_readConfig 292 = .ok (.iload 5, 2) := by decide +kernel
theorem dX12_readConfig_294 : decode cX12_readConfig 294 = .ok (.iastore, 1) := by decide +kernel
theorem dX12_readConfig_295 : decode cX12_readConfig 295 = .ok (.aload_n 0, 1) := by decide +kernel
theorem dX12_readConfig_296 : decode cX12_readConfig 296 = .ok (.getfield 260, 3) := by decide +kernel
theorem dX12_readConfig_299 : decode cX12_readConfig 299 = .ok (.bipush 25, 2) := by decide +kernel
theorem dX12_readConfig_301 : decode cX12_readConfig 301 = .ok (.iconst 3, 1) := by decide +kernel
theorem dX12_readConfig_302 : decode cX12_readConfig 302 = .ok (.iload 4, 2) := by decide +kernel
theorem dX12_readConfig_304 : decode cX12_readConfig 304 = .ok (.imul, 1) := by decide +kernel
theorem dX12_readConfig_305 : decode cX12_readConfig 305 = .ok (.iadd, 1) := by decide +kernel
theorem dX12_readConfig_306 : decode cX12_readConfig 306 = .ok (.iload 6, 2) := by decide +kernel
theorem dX12_readConfig_308 : decode cX12_readConfig 308 = .ok (.iastore, 1) := by decide +kernel
theorem dX12_readConfig_309 : decode cX12_readConfig 309 = .ok (.aload_n 0, 1) := by decide +kernel
theorem dX12_readConfig_310 : decode cX12_readConfig 310 = .ok (.getfield 260, 3) := by decide +kernel
theorem dX12_readConfig_313 : decode cX12_readConfig 313 = .ok (.bipush 26, 2) := by decide +kernel
theorem dX12_readConfig_315 : decode cX12_readConfig 315 = .ok (.iconst 3, 1) := by decide +kernel
theorem dX12_readConfig_316 : decode cX12_readConfig 316 = .ok (.iload 4, 2) := by decide +kernel
theorem dX12_readConfig_318 : decode cX12_readConfig 318 = .ok (.imul, 1) := by decide +kernel
theorem dX12_readConfig_319 : decode cX12_readConfig 319 = .ok (.iadd, 1) := by decide +kernel
theorem dX12_readConfig_320 : decode cX12_readConfig 320 = .ok (.aload_n 0, 1) := by decide +kernel
theorem dX12_readConfig_321 : decode cX12_readConfig 321 = .ok (.iconst 1, 1) := by decide +kernel
theorem dX12_readConfig_322 : decode cX12_readConfig 322 = .ok (.bipush 16, 2) := by decide +kernel
theorem dX12_readConfig_324 : decode cX12_readConfig 324 = .ok (.invokevirtual 507, 3) := by decide +kernel
theorem dX12_readConfig_327 : decode cX12_readConfig 327 = .ok (.iastore, 1) := by decide +kernel
theorem dX12_readConfig_328 : decode cX12_readConfig 328 = .ok (.iinc 4 1, 3) := by decide +kernel
theorem dX12_readConfig_331 : decode cX12_readConfig 331 = .ok (.goto (-99), 3) := by decide +kernel
theorem dX12_readConfig_334 : decode cX12_readConfig 334 = .ok (.aload_n 0, 1) := by decide +kernel
theorem dX12_readConfig_335 : decode cX12_readConfig 335 = .ok (.iconst 1, 1) := by decide +kernel
theorem dX12_readConfig_336 : decode cX12_readConfig 336 = .ok (.bipush 32, 2) := by decide +kernel
theorem dX12_readConfig_338 : decode cX12_readConfig 338 = .ok (.invokevirtual 507, 3) := by decide +kernel
theorem dX12_readConfig_341 : decode cX12_readConfig 341 = .ok (.istore 4, 2) := by decide +kernel
theorem dX12_readConfig_343 : decode cX12_readConfig 343 = .ok (.iconst 0, 1) := by decide +kernel
theorem dX12_readConfig_344 : decode cX12_readConfig 344 = .ok (.istore 5, 2) := by decide +kernel
theorem dX12_readConfig_346 : decode cX12_readConfig 346 = .ok (.iload 5, 2) := by decide +kernel
theorem dX12_readConfig_348 : decode cX12_readConfig 348 = .ok (.iload 4, 2) := by decide +kernel
theorem dX12_readConfig_350 : decode cX12_readConfig 350 = .ok (.if_icmp .ge 83, 3) := by decide +kernel
theorem dX12_readConfig_353 : decode cX12_readConfig 353 = .ok (.aload_n 0, 1) := by decide +kernel
theorem dX12_readConfig_354 : decode cX12_readConfig 354 = .ok (.getfield 500, 3) := by decide +kernel
theorem dX12_readConfig_357 : decode cX12_readConfig 357 = .ok (.ifCond .ne 76, 3) := by decide +kernel
theorem dX12_readConfig_360 : decode cX12_readConfig 360 = .ok (.aload_n 0, 1) := by decide +kernel
theorem dX12_readConfig_361 : decode cX12_readConfig 361 = .ok (.iconst 0, 1) := by decide +kernel
theorem dX12_readConfig_362 : decode cX12_readConfig 362 = .ok (.sipush 255, 3) := by decide +kernel
theorem dX12_readConfig_365 : decode cX12_readConfig 365 = .ok (.invokevirtual 507, 3) := by decide +kernel
theorem dX12_readConfig_368 : decode cX12_readConfig 368 = .ok (.istore 6, 2) := by decide +kernel
theorem dX12_readConfig_370 : decode cX12_readConfig 370 = .ok (.aload_n 0, 1) := by decide +kernel
theorem dX12_readConfig_371 : decode cX12_readConfig 371 = .ok (.iload 6, 2) := by decide +kernel
theorem dX12_readConfig_373 : decode cX12_readConfig 373 = .ok (.iload_n 1, 1) := by decide +kernel
theorem dX12_readConfig_374 : decode cX12_readConfig 374 = .ok (.if_icmp .lt 15, 3) := by decide +kernel
theorem dX12_readConfig_377 : decode cX12_readConfig 377 = .ok (.iload 6, 2) := by decide +kernel
theorem dX12_readConfig_379 : decode cX12_readConfig 379 = .ok (.sipush 255, 3) := by decide +kernel
theorem dX12_readConfig_382 : decode cX12_readConfig 382 = .ok (.if_icmp .eq 7, 3) := by decide +kernel
theorem dX12_readConfig_385 : decode cX12_readConfig 385 = .ok (.iconst 1, 1) := by decide +kernel
theorem dX12_readConfig_386 : decode cX12_readConfig 386 = .ok (.goto 4, 3) := by decide +kernel
theorem dX12_readConfig_389 : decode cX12_readConfig 389 = .ok (.iconst 0, 1) := by decide +kernel
theorem dX12_readConfig_390 : decode cX12_readConfig 390 = .ok (.invokevirtual 510, 3) := by decide +kernel
theorem dX12_readConfig_393 : decode cX12_readConfig 393 = .ok (.aload_n 0, 1) := by decide +kernel
theorem dX12_readConfig_394 : decode cX12_readConfig 394 = .ok (.getfield 260, 3) := by decide +kernel
theorem dX12_readConfig_397 : decode cX12_readConfig 397 = .ok (.bipush 72, 2) := by decide +kernel
theorem dX12_readConfig_399 : decode cX12_readConfig 399 = .ok (.iconst 2, 1) := by decide +kernel
theorem dX12_readConfig_400 : decode cX12_readConfig 400 = .ok (.iload 5, 2) := by decide +kernel
theorem dX12_readConfig_402 : decode cX12_readConfig 402 = .ok (.imul, 1) := by decide +kernel
theorem dX12_readConfig_403 : decode cX12_readConfig 403 = .ok (.iadd, 1) := by decide +kernel
theorem dX12_readConfig_404 : decode cX12_readConfig 404 = .ok (.iload 6, 2) := by decide +kernel
theorem dX12_readConfig_406 : decode cX12_readConfig 406 = .ok (.iastore, 1) := by decide +kernel
theorem dX12_readConfig_407 : decode cX12_readConfig 407 = .ok (.aload_n 0, 1) := by decide +kernel
theorem dX12_readConfig_408 : decode cX12_readConfig 408 = .ok (.getfield 260, 3) := by decide +kernel
theorem dX12_readConfig_411 : decode cX12_readConfig 411 = .ok (.bipush 73, 2) := by decide +kernel
theorem dX12_readConfig_413 : decode cX12_readConfig 413 = .ok (.iconst 2, 1) := by decide +kernel
theorem dX12_readConfig_414 : decode cX12_readConfig 414 = .ok (.iload 5, 2) := by decide +kernel
theorem dX12_readConfig_416 : decode cX12_readConfig 416 = .ok (.imul, 1) := by decide +kernel
theorem dX12_readConfig_417 : decode cX12_readConfig 417 = .ok (.iadd, 1) := by decide +kernel
theorem dX12_readConfig_418 : decode cX12_readConfig 418 = .ok (.aload_n 0, 1) := by decide +kernel
theorem dX12_readConfig_419 : decode cX12_readConfig 419 = .ok (.iconst 1, 1) := by decide +kernel
theorem dX12_readConfig_420 : decode cX12_readConfig 420 = .ok (.sipush 1000, 3) := by decide +kernel
theorem dX12_readConfig_423 : decode cX12_readConfig 423 = .ok (.invokevirtual 507, 3) := by decide +kernel
theorem dX12_readConfig_426 : decode cX12_readConfig 426 = .ok (.iastore, 1) := by decide +kernel
theorem dX12_readConfig_427 : decode cX12_readConfig 427 = .ok (.iinc 5 1, 3) := by decide +kernel
theorem dX12_readConfig_430 : decode cX12_readConfig 430 = .ok (.goto (-84), 3) := by decide +kernel
theorem dX12_readConfig_433 : decode cX12_readConfig 433 = .ok (.aload_n 0, 1) := by decide +kernel
theorem dX12_readConfig_434 : decode cX12_readConfig 434 = .ok (.getfield 500, 3) := by decide +kernel
theorem dX12_readConfig_437 : decode cX12_readConfig 437 = .ok (.ifCond .ne 17, 3) := by decide +kernel
theorem dX12_readConfig_440 : decode cX12_readConfig 440 = .ok (.aload_n 0, 1) := by decide +kernel
theorem dX12_readConfig_441 : decode cX12_readConfig 441 = .ok (.getfield 504, 3) := by decide +kernel
theorem dX12_readConfig_444 : decode cX12_readConfig 444 = .ok (.aload_n 0, 1) := by decide +kernel
theorem dX12_readConfig_445 : decode cX12_readConfig 445 = .ok (.getfield 104, 3) := by decide +kernel
theorem dX12_readConfig_448 : decode cX12_readConfig 448 = .ok (.bipush 9, 2) := by decide +kernel
theorem dX12_readConfig_450 : decode cX12_readConfig 450 = .ok (.iaload, 1) := by decide +kernel
theorem dX12_readConfig_451 : decode cX12_readConfig 451 = .ok (.if_icmp .ge 5, 3) := by decide +kernel
theorem dX12_readConfig_454 : decode cX12_readConfig 454 = .ok (.iconst 0, 1) := by decide +kernel
theorem dX12_readConfig_455 : decode cX12_readConfig 455 = .ok (.ireturn, 1) := by decide +kernel
theorem dX12_readConfig_456 : decode cX12_readConfig 456 = .ok (.aload_n 0, 1) := by decide +kernel
theorem dX12_readConfig_457 : decode cX12_readConfig 457 = .ok (.getfield 260, 3) := by decide +kernel
theorem dX12_readConfig_460 : decode cX12_readConfig 460 = .ok (.sipush 196, 3) := by decide +kernel
theorem dX12_readConfig_463 : decode cX12_readConfig 463 = .ok (.iload_n 1, 1) := by decide +kernel
theorem dX12_readConfig_464 : decode cX12_readConfig 464 = .ok (.iastore, 1) := by decide +kernel
theorem dX12_readConfig_465 : decode cX12_readConfig 465 = .ok (.aload_n 0, 1) := by decide +kernel
theorem dX12_readConfig_466 : decode cX12_readConfig 466 = .ok (.getfield 260, 3) := by decide +kernel
theorem dX12_readConfig_469 : decode cX12_readConfig 469 = .ok (.sipush 197, 3) := by decide +kernel
theorem dX12_readConfig_472 : decode cX12_readConfig 472 = .ok (.iload_n 3, 1) := by decide +kernel
theorem dX12_readConfig_473 : decode cX12_readConfig 473 = .ok (.iastore, 1) := by decide +kernel
theorem dX12_readConfig_474 : decode cX12_readConfig 474 = .ok (.aload_n 0, 1) := by decide +kernel
theorem dX12_readConfig_475 : decode cX12_readConfig 475 = .ok (.getfield 260, 3) := by decide +kernel
theorem dX12_readConfig_478 : decode cX12_readConfig 478 = .ok (.sipush 198, 3) := by decide +kernel
theorem dX12_readConfig_481 : decode cX12_readConfig 481 = .ok (.iload 4, 2) := by decide +kernel
theorem dX12_readConfig_483 : decode cX12_readConfig 483 = .ok (.iastore, 1) := by decide +kernel
theorem dX12_readConfig_484 : decode cX12_readConfig 484 = .ok (.iconst 1, 1) := by decide +kernel
theorem dX12_readConfig_485 : decode cX12_readConfig 485 = .ok (.ireturn, 1) := by decide +kernel
theorem cc_readConfig : Cond.code yX12_readConfig cX12_readConfig 8 (some .boolean) ∈ rf_tb := rf_at 2067 (by decide +kernel) (by decide +kernel)
theorem cw_readConfig : rf_wV yX12_readConfig cX12_readConfig 8 (some .boolean) 531 0 := ⟨⟨rf_at 2064 (by decide +kernel) (by decide +kernel), rf_at 2066 (by decide +kernel) (by decide +kernel), rf_sel (q := (yX12_readConfig, 122)) 101 (by decide +kernel) (by decide +kernel), cc_readConfig⟩, rfl, by decide +kernel⟩
noncomputable def bq_readConfig_135i76 (x1 : Int32) (x2 : Int32) (x3 : Int32) (x4 : Int32) (x5 : Int32) (x7 : Int32) (v0 : Int32) (ρ : rf_S) : Option ((Int32 × Int32 × rf_S) ⊕ (Int32 × Int32 × rf_S)) := vl (x7 + (1:Int32)) (fun x7_9 => some (.inl (v0, x7_9, ρ)))
set_option maxHeartbeats 4000000 in
theorem wq_readConfig_135i76 (C : rf_C D p s m args meth c cX12_readConfig 8 (some .boolean)) {r : Int32} {x1 : Int32} {x2 : Int32} {x3 : Int32} {x4 : Int32} {x5 : Int32} {x7 : Int32} {v0 : Int32} {ρ ρ' : rf_S} {H : Heap} {locs : List Loc} {ls : Array Slot} {o : (Int32 × Int32 × rf_S) ⊕ (Int32 × Int32 × rf_S)} (h : bq_readConfig_135i76 x1 x2 x3 x4 x5 x7 v0 ρ = some o) (hP : Sum.elim (fun z : (Int32 × Int32 × rf_S) => ∀ (H : Heap) (locs : List Loc) (ls : Array Slot), rf_G D h0 s z.2.2 H locs → lv_has ls 8 [(0, .ref h0), (1, .int x1), (2, .int x2), (3, .int x3), (4, .int x4), (5, .int x5), (6, .int z.1), (7, .int z.2.1)] → W p l e ({ frames := 1, cells := 0, slots := 0, locals := 22 }) s m args below meth c H locs 0 0 (MQ below (rf_Q D h0 (some (.int r)) ρ') args s 0 0 (rf_A h0)) (F0 m 76 ls [])) (fun z : (Int32 × Int32 × rf_S) => ∀ (H : Heap) (locs : List Loc) (ls : Array Slot), rf_G D h0 s z.2.2 H locs → lv_has ls 8 [(0, .ref h0), (1, .int x1), (2, .int x2), (3, .int x3), (4, .int x4), (5, .int x5), (6, .int z.1), (7, .int z.2.1)] → W p l e ({ frames := 1, cells := 0, slots := 0, locals := 22 }) s m args below meth c H locs 0 0 (MQ below (rf_Q D h0 (some (.int r)) ρ') args s 0 0 (rf_A h0)) (F0 m 143 ls [])) o) (G : rf_G D h0 s ρ H locs) (hl : lv_has ls 8 [(0, .ref h0), (1, .int x1), (2, .int x2), (3, .int x3), (4, .int x4), (5, .int x5), (7, .int x7)]) : W p l e ({ frames := 1, cells := 0, slots := 0, locals := 22 }) s m args below meth c H locs 0 0 (MQ below (rf_Q D h0 (some (.int r)) ρ') args s 0 0 (rf_A h0)) (F0 m 135 ls [.int v0]) := by
  unfold bq_readConfig_135i76 at h
  refine lv_istore (lv' := [(6, .int v0), (0, .ref h0), (1, .int x1), (2, .int x2), (3, .int x3), (4, .int x4), (5, .int x5), (7, .int x7)]) C.1 C.2.1 dX12_readConfig_135 hl (by decide) rfl (fun ls hl => ?_)
  refine vl_ex h (fun x7_9 ey h => ?_)
  refine lv_iinc (v := x7_9) (lv' := [(7, .int x7_9), (6, .int v0), (0, .ref h0), (1, .int x1), (2, .int x2), (3, .int x3), (4, .int x4), (5, .int x5)]) C.1 C.2.1 dX12_readConfig_137 hl (k := 7) rfl (by rw [ey]; rfl) (by decide) rfl (fun ls hl => ?_)
  refine lv_goto (tgt := 76) C.1 C.2.1 dX12_readConfig_140 (by decide) ?_
  cases h
  exact hP _ _ _ G (lv_sub hl [2, 3, 4, 5, 6, 7, 1, 0] rfl)
noncomputable def bq_readConfig_130i76 (x1 : Int32) (x2 : Int32) (x3 : Int32) (x4 : Int32) (x5 : Int32) (x7 : Int32) (ρ : rf_S) : Option ((Int32 × Int32 × rf_S) ⊕ (Int32 × Int32 × rf_S)) := bq_readConfig_135i76 x1 x2 x3 x4 x5 x7 (1:Int32) ρ
set_option maxHeartbeats 4000000 in
theorem wq_readConfig_130i76 (C : rf_C D p s m args meth c cX12_readConfig 8 (some .boolean)) {r : Int32} {x1 : Int32} {x2 : Int32} {x3 : Int32} {x4 : Int32} {x5 : Int32} {x7 : Int32} {ρ ρ' : rf_S} {H : Heap} {locs : List Loc} {ls : Array Slot} {o : (Int32 × Int32 × rf_S) ⊕ (Int32 × Int32 × rf_S)} (h : bq_readConfig_130i76 x1 x2 x3 x4 x5 x7 ρ = some o) (hP : Sum.elim (fun z : (Int32 × Int32 × rf_S) => ∀ (H : Heap) (locs : List Loc) (ls : Array Slot), rf_G D h0 s z.2.2 H locs → lv_has ls 8 [(0, .ref h0), (1, .int x1), (2, .int x2), (3, .int x3), (4, .int x4), (5, .int x5), (6, .int z.1), (7, .int z.2.1)] → W p l e ({ frames := 1, cells := 0, slots := 0, locals := 22 }) s m args below meth c H locs 0 0 (MQ below (rf_Q D h0 (some (.int r)) ρ') args s 0 0 (rf_A h0)) (F0 m 76 ls [])) (fun z : (Int32 × Int32 × rf_S) => ∀ (H : Heap) (locs : List Loc) (ls : Array Slot), rf_G D h0 s z.2.2 H locs → lv_has ls 8 [(0, .ref h0), (1, .int x1), (2, .int x2), (3, .int x3), (4, .int x4), (5, .int x5), (6, .int z.1), (7, .int z.2.1)] → W p l e ({ frames := 1, cells := 0, slots := 0, locals := 22 }) s m args below meth c H locs 0 0 (MQ below (rf_Q D h0 (some (.int r)) ρ') args s 0 0 (rf_A h0)) (F0 m 143 ls [])) o) (G : rf_G D h0 s ρ H locs) (hl : lv_has ls 8 [(0, .ref h0), (1, .int x1), (2, .int x2), (3, .int x3), (4, .int x4), (5, .int x5), (7, .int x7)]) : W p l e ({ frames := 1, cells := 0, slots := 0, locals := 22 }) s m args below meth c H locs 0 0 (MQ below (rf_Q D h0 (some (.int r)) ρ') args s 0 0 (rf_A h0)) (F0 m 130 ls []) := by
  unfold bq_readConfig_130i76 at h
  refine lv_iconst (v := (1:Int32)) C.1 C.2.1 dX12_readConfig_130 (by decide) ?_
  refine lv_goto (tgt := 135) C.1 C.2.1 dX12_readConfig_131 (by decide) ?_
  exact wq_readConfig_135i76 C h hP G (lv_sub hl [0, 1, 2, 3, 4, 5, 6] rfl)
noncomputable def bq_readConfig_134i76 (x1 : Int32) (x2 : Int32) (x3 : Int32) (x4 : Int32) (x5 : Int32) (x7 : Int32) (ρ : rf_S) : Option ((Int32 × Int32 × rf_S) ⊕ (Int32 × Int32 × rf_S)) := bq_readConfig_135i76 x1 x2 x3 x4 x5 x7 (0:Int32) ρ
set_option maxHeartbeats 4000000 in
theorem wq_readConfig_134i76 (C : rf_C D p s m args meth c cX12_readConfig 8 (some .boolean)) {r : Int32} {x1 : Int32} {x2 : Int32} {x3 : Int32} {x4 : Int32} {x5 : Int32} {x7 : Int32} {ρ ρ' : rf_S} {H : Heap} {locs : List Loc} {ls : Array Slot} {o : (Int32 × Int32 × rf_S) ⊕ (Int32 × Int32 × rf_S)} (h : bq_readConfig_134i76 x1 x2 x3 x4 x5 x7 ρ = some o) (hP : Sum.elim (fun z : (Int32 × Int32 × rf_S) => ∀ (H : Heap) (locs : List Loc) (ls : Array Slot), rf_G D h0 s z.2.2 H locs → lv_has ls 8 [(0, .ref h0), (1, .int x1), (2, .int x2), (3, .int x3), (4, .int x4), (5, .int x5), (6, .int z.1), (7, .int z.2.1)] → W p l e ({ frames := 1, cells := 0, slots := 0, locals := 22 }) s m args below meth c H locs 0 0 (MQ below (rf_Q D h0 (some (.int r)) ρ') args s 0 0 (rf_A h0)) (F0 m 76 ls [])) (fun z : (Int32 × Int32 × rf_S) => ∀ (H : Heap) (locs : List Loc) (ls : Array Slot), rf_G D h0 s z.2.2 H locs → lv_has ls 8 [(0, .ref h0), (1, .int x1), (2, .int x2), (3, .int x3), (4, .int x4), (5, .int x5), (6, .int z.1), (7, .int z.2.1)] → W p l e ({ frames := 1, cells := 0, slots := 0, locals := 22 }) s m args below meth c H locs 0 0 (MQ below (rf_Q D h0 (some (.int r)) ρ') args s 0 0 (rf_A h0)) (F0 m 143 ls [])) o) (G : rf_G D h0 s ρ H locs) (hl : lv_has ls 8 [(0, .ref h0), (1, .int x1), (2, .int x2), (3, .int x3), (4, .int x4), (5, .int x5), (7, .int x7)]) : W p l e ({ frames := 1, cells := 0, slots := 0, locals := 22 }) s m args below meth c H locs 0 0 (MQ below (rf_Q D h0 (some (.int r)) ρ') args s 0 0 (rf_A h0)) (F0 m 134 ls []) := by
  unfold bq_readConfig_134i76 at h
  refine lv_iconst (v := (0:Int32)) C.1 C.2.1 dX12_readConfig_134 (by decide) ?_
  exact wq_readConfig_135i76 C h hP G (lv_sub hl [0, 1, 2, 3, 4, 5, 6] rfl)
noncomputable def lq_readConfig_76i22 (x1 : Int32) (x2 : Int32) (x3 : Int32) (x4 : Int32) (x5 : Int32) (x6 : Int32) (x7 : Int32) (ρ : rf_S) : Option ((Int32 × Int32 × rf_S) ⊕ (Int32 × Int32 × rf_S)) := (if x3 ≤ x7 then some (.inr (x6, x7, ρ)) else (if x6 = 0 then ix ((3:Int32) * x7) 200 (ix (((3:Int32) * x7) + (1:Int32)) 200 ((if ((ρ.1 79 ((3:Int32) * x7).toNatClampNeg) + (ρ.1 79 (((3:Int32) * x7) + (1:Int32)).toNatClampNeg)) ≤ x4 then bq_readConfig_134i76 x1 x2 x3 x4 x5 x7 ρ else ix ((3:Int32) * x7) 200 ((if (x4 + x5) ≤ (ρ.1 79 ((3:Int32) * x7).toNatClampNeg) then bq_readConfig_134i76 x1 x2 x3 x4 x5 x7 ρ else bq_readConfig_130i76 x1 x2 x3 x4 x5 x7 ρ))))) else bq_readConfig_130i76 x1 x2 x3 x4 x5 x7 ρ))
noncomputable def bq_readConfig_173i22 (x1 : Int32) (x2 : Int32) (x3 : Int32) (x4 : Int32) (x5 : Int32) (x7 : Int32) (v1 : Int32) (ρ : rf_S) : Option ((Int32 × Int32 × rf_S) ⊕ (Int32 × Int32 × rf_S)) := bd1 (fq_refuse v1 ρ) (fun ρ_13 => vl (x2 + x7) (fun x2_14 => ix ((3:Int32) * x3) 200 (vl (rf_w ρ_13 79 ((3:Int32) * x3).toNatClampNeg x4) (fun ρ_15 => ix (((3:Int32) * x3) + (1:Int32)) 200 (vl (rf_w ρ_15 79 (((3:Int32) * x3) + (1:Int32)).toNatClampNeg x5) (fun ρ_16 => ix (((3:Int32) * x3) + (2:Int32)) 200 (vl (rf_w ρ_16 79 (((3:Int32) * x3) + (2:Int32)).toNatClampNeg x7) (fun ρ_17 => vl (x3 + (1:Int32)) (fun x3_18 => some (.inl (x2_14, x3_18, ρ_17)))))))))))
set_option maxHeartbeats 4000000 in
theorem wq_readConfig_173i22 (C : rf_C D p s m args meth c cX12_readConfig 8 (some .boolean)) {r : Int32} {x1 : Int32} {x2 : Int32} {x3 : Int32} {x4 : Int32} {x5 : Int32} {x7 : Int32} {v1 : Int32} {ρ ρ' : rf_S} {H : Heap} {locs : List Loc} {ls : Array Slot} {o : (Int32 × Int32 × rf_S) ⊕ (Int32 × Int32 × rf_S)} (h : bq_readConfig_173i22 x1 x2 x3 x4 x5 x7 v1 ρ = some o) (hP : Sum.elim (fun z : (Int32 × Int32 × rf_S) => ∀ (H : Heap) (locs : List Loc) (ls : Array Slot), rf_G D h0 s z.2.2 H locs → lv_has ls 8 [(0, .ref h0), (1, .int x1), (2, .int z.1), (3, .int z.2.1)] → W p l e ({ frames := 1, cells := 0, slots := 0, locals := 22 }) s m args below meth c H locs 0 0 (MQ below (rf_Q D h0 (some (.int r)) ρ') args s 0 0 (rf_A h0)) (F0 m 22 ls [])) (fun z : (Int32 × Int32 × rf_S) => ∀ (H : Heap) (locs : List Loc) (ls : Array Slot), rf_G D h0 s z.2.2 H locs → lv_has ls 8 [(0, .ref h0), (1, .int x1), (2, .int z.1), (3, .int z.2.1)] → W p l e ({ frames := 1, cells := 0, slots := 0, locals := 22 }) s m args below meth c H locs 0 0 (MQ below (rf_Q D h0 (some (.int r)) ρ') args s 0 0 (rf_A h0)) (F0 m 221 ls [])) o) (G : rf_G D h0 s ρ H locs) (hl : lv_has ls 8 [(0, .ref h0), (1, .int x1), (2, .int x2), (3, .int x3), (4, .int x4), (5, .int x5), (7, .int x7)]) : W p l e ({ frames := 1, cells := 0, slots := 0, locals := 22 }) s m args below meth c H locs 0 0 (MQ below (rf_Q D h0 (some (.int r)) ρ') args s 0 0 (rf_A h0)) (F0 m 173 ls [.int v1, .ref h0]) := by
  unfold bq_readConfig_173i22 at h
  obtain ⟨ρ_13, hq, h⟩ := bd1_some h
  refine rf_callV (rest := []) C G cw_refuse [.int v1] _ (kq_refuse l D h0 hq) (Nat.le_of_ble_eq_true rfl) (Nat.le_of_ble_eq_true rfl) rfl rfl hl.1 (Nat.le_of_ble_eq_true rfl) (Nat.zero_le _) (Nat.zero_le _) dX12_readConfig_173 (fun H locs G => ?_)
  refine W.eq (g2 := F0 m 176 ls []) rfl ?_
  refine lv_iload_n C.1 C.2.1 dX12_readConfig_176 rfl (lv_at hl 2 rfl) ?_
  refine lv_iload C.1 C.2.1 dX12_readConfig_177 (lv_at hl 6 rfl) ?_
  refine lv_iadd C.1 C.2.1 dX12_readConfig_179 ?_
  refine vt_i h (fun x2_14 h => ?_)
  refine lv_istore_n (lv' := [(2, .int x2_14), (0, .ref h0), (1, .int x1), (3, .int x3), (4, .int x4), (5, .int x5), (7, .int x7)]) C.1 C.2.1 dX12_readConfig_180 rfl hl (by decide) rfl (fun ls hl => ?_)
  refine lv_aload_n C.1 C.2.1 dX12_readConfig_181 rfl (lv_at hl 1 rfl) ?_
  refine gf_117 C G dX12_readConfig_182 ?_
  refine lv_iconst (v := (3:Int32)) C.1 C.2.1 dX12_readConfig_185 (by decide) ?_
  refine lv_iload_n C.1 C.2.1 dX12_readConfig_186 rfl (lv_at hl 3 rfl) ?_
  refine lv_imul C.1 C.2.1 dX12_readConfig_187 ?_
  refine lv_iload C.1 C.2.1 dX12_readConfig_188 (lv_at hl 4 rfl) ?_
  obtain ⟨hi, h⟩ := ix_some h
  refine rf_iast C G 79 rfl (by decide) rfl rfl hi dX12_readConfig_190 (fun H locs G => ?_)
  refine rf_nm G h (fun ρ_15 G h => ?_)
  refine lv_aload_n C.1 C.2.1 dX12_readConfig_191 rfl (lv_at hl 1 rfl) ?_
  refine gf_117 C G dX12_readConfig_192 ?_
  refine lv_iconst (v := (3:Int32)) C.1 C.2.1 dX12_readConfig_195 (by decide) ?_
  refine lv_iload_n C.1 C.2.1 dX12_readConfig_196 rfl (lv_at hl 3 rfl) ?_
  refine lv_imul C.1 C.2.1 dX12_readConfig_197 ?_
  refine lv_iconst (v := (1:Int32)) C.1 C.2.1 dX12_readConfig_198 (by decide) ?_
  refine lv_iadd C.1 C.2.1 dX12_readConfig_199 ?_
  refine lv_iload C.1 C.2.1 dX12_readConfig_200 (lv_at hl 5 rfl) ?_
  obtain ⟨hi, h⟩ := ix_some h
  refine rf_iast C G 79 rfl (by decide) rfl rfl hi dX12_readConfig_202 (fun H locs G => ?_)
  refine rf_nm G h (fun ρ_16 G h => ?_)
  refine lv_aload_n C.1 C.2.1 dX12_readConfig_203 rfl (lv_at hl 1 rfl) ?_
  refine gf_117 C G dX12_readConfig_204 ?_
  refine lv_iconst (v := (3:Int32)) C.1 C.2.1 dX12_readConfig_207 (by decide) ?_
  refine lv_iload_n C.1 C.2.1 dX12_readConfig_208 rfl (lv_at hl 3 rfl) ?_
  refine lv_imul C.1 C.2.1 dX12_readConfig_209 ?_
  refine lv_iconst (v := (2:Int32)) C.1 C.2.1 dX12_readConfig_210 (by decide) ?_
  refine lv_iadd C.1 C.2.1 dX12_readConfig_211 ?_
  refine lv_iload C.1 C.2.1 dX12_readConfig_212 (lv_at hl 6 rfl) ?_
  obtain ⟨hi, h⟩ := ix_some h
  refine rf_iast C G 79 rfl (by decide) rfl rfl hi dX12_readConfig_214 (fun H locs G => ?_)
  refine rf_nm G h (fun ρ_17 G h => ?_)
  refine vl_ex h (fun x3_18 ey h => ?_)
  refine lv_iinc (v := x3_18) (lv' := [(3, .int x3_18), (2, .int x2_14), (0, .ref h0), (1, .int x1), (4, .int x4), (5, .int x5), (7, .int x7)]) C.1 C.2.1 dX12_readConfig_215 hl (k := 3) rfl (by rw [ey]; rfl) (by decide) rfl (fun ls hl => ?_)
  refine lv_goto (tgt := 22) C.1 C.2.1 dX12_readConfig_218 (by decide) ?_
  cases h
  exact hP _ _ _ G (lv_sub hl [2, 3, 1, 0] rfl)
noncomputable def eq_readConfig_76i22 (x1 : Int32) (x2 : Int32) (x3 : Int32) (x4 : Int32) (x5 : Int32) (x6 : Int32) (x7 : Int32) (ρ : rf_S) : Option ((Int32 × Int32 × rf_S) ⊕ (Int32 × Int32 × rf_S)) := bd1 (fq_refuse x6 ρ) (fun ρ_10 => bd2 (fq_config (0:Int32) (8:Int32) ρ_10) (fun r_12 ρ_11 => (if (x2 + r_12) ≤ (32:Int32) then bq_readConfig_173i22 x1 x2 x3 x4 x5 r_12 (0:Int32) ρ_11 else bq_readConfig_173i22 x1 x2 x3 x4 x5 r_12 (1:Int32) ρ_11)))
noncomputable def bq_readConfig_76i22 (x1 : Int32) (x2 : Int32) (x3 : Int32) (x4 : Int32) (x5 : Int32) (x6 : Int32) (x7 : Int32) (ρ : rf_S) : Option ((Int32 × Int32 × rf_S) ⊕ (Int32 × Int32 × rf_S)) := (lp (fun z : (Int32 × Int32 × rf_S) => lq_readConfig_76i22 x1 x2 x3 x4 x5 z.1 z.2.1 z.2.2) (x6, x7, ρ)).bind (fun z => eq_readConfig_76i22 x1 x2 x3 x4 x5 z.1 z.2.1 z.2.2)
set_option maxHeartbeats 4000000 in
theorem wq_readConfig_76i22 (C : rf_C D p s m args meth c cX12_readConfig 8 (some .boolean)) {r : Int32} {x1 : Int32} {x2 : Int32} {x3 : Int32} {x4 : Int32} {x5 : Int32} {x6 : Int32} {x7 : Int32} {ρ ρ' : rf_S} {H : Heap} {locs : List Loc} {ls : Array Slot} {o : (Int32 × Int32 × rf_S) ⊕ (Int32 × Int32 × rf_S)} (h : bq_readConfig_76i22 x1 x2 x3 x4 x5 x6 x7 ρ = some o) (hP : Sum.elim (fun z : (Int32 × Int32 × rf_S) => ∀ (H : Heap) (locs : List Loc) (ls : Array Slot), rf_G D h0 s z.2.2 H locs → lv_has ls 8 [(0, .ref h0), (1, .int x1), (2, .int z.1), (3, .int z.2.1)] → W p l e ({ frames := 1, cells := 0, slots := 0, locals := 22 }) s m args below meth c H locs 0 0 (MQ below (rf_Q D h0 (some (.int r)) ρ') args s 0 0 (rf_A h0)) (F0 m 22 ls [])) (fun z : (Int32 × Int32 × rf_S) => ∀ (H : Heap) (locs : List Loc) (ls : Array Slot), rf_G D h0 s z.2.2 H locs → lv_has ls 8 [(0, .ref h0), (1, .int x1), (2, .int z.1), (3, .int z.2.1)] → W p l e ({ frames := 1, cells := 0, slots := 0, locals := 22 }) s m args below meth c H locs 0 0 (MQ below (rf_Q D h0 (some (.int r)) ρ') args s 0 0 (rf_A h0)) (F0 m 221 ls [])) o) (G : rf_G D h0 s ρ H locs) (hl : lv_has ls 8 [(0, .ref h0), (1, .int x1), (2, .int x2), (3, .int x3), (4, .int x4), (5, .int x5), (6, .int x6), (7, .int x7)]) : W p l e ({ frames := 1, cells := 0, slots := 0, locals := 22 }) s m args below meth c H locs 0 0 (MQ below (rf_Q D h0 (some (.int r)) ρ') args s 0 0 (rf_A h0)) (F0 m 76 ls []) := by
  unfold bq_readConfig_76i22 at h
  obtain ⟨y, hy, h⟩ := bd_some h
  have hE : (fun z : (Int32 × Int32 × rf_S) => ∀ (H : Heap) (locs : List Loc) (ls : Array Slot), rf_G D h0 s z.2.2 H locs → lv_has ls 8 [(0, .ref h0), (1, .int x1), (2, .int x2), (3, .int x3), (4, .int x4), (5, .int x5), (6, .int z.1), (7, .int z.2.1)] → W p l e ({ frames := 1, cells := 0, slots := 0, locals := 22 }) s m args below meth c H locs 0 0 (MQ below (rf_Q D h0 (some (.int r)) ρ') args s 0 0 (rf_A h0)) (F0 m 143 ls [])) y := by
    intro H locs ls G hl
    obtain ⟨x6, x7, ρ⟩ := y
    dsimp only at h G hl
    unfold eq_readConfig_76i22 at h
    refine lv_aload_n C.1 C.2.1 dX12_readConfig_143 rfl (lv_at hl 0 rfl) ?_
    refine lv_iload C.1 C.2.1 dX12_readConfig_144 (lv_at hl 6 rfl) ?_
    obtain ⟨ρ_10, hq, h⟩ := bd1_some h
    refine rf_callV (rest := []) C G cw_refuse [.int x6] _ (kq_refuse l D h0 hq) (Nat.le_of_ble_eq_true rfl) (Nat.le_of_ble_eq_true rfl) rfl rfl hl.1 (Nat.le_of_ble_eq_true rfl) (Nat.zero_le _) (Nat.zero_le _) dX12_readConfig_146 (fun H locs G => ?_)
    refine W.eq (g2 := F0 m 149 ls []) rfl ?_
    refine lv_aload_n C.1 C.2.1 dX12_readConfig_149 rfl (lv_at hl 0 rfl) ?_
    refine lv_iconst (v := (0:Int32)) C.1 C.2.1 dX12_readConfig_150 (by decide) ?_
    refine lv_bipush (v := (8:Int32)) C.1 C.2.1 dX12_readConfig_151 (by decide) ?_
    obtain ⟨r_12, ρ_11, hq, h⟩ := bd2_some h
    refine rf_callV (rest := []) C G cw_config [.int (0:Int32), .int (8:Int32)] _ (kq_config l D h0 hq) (Nat.le_of_ble_eq_true rfl) (Nat.le_of_ble_eq_true rfl) rfl rfl hl.1 (Nat.le_of_ble_eq_true rfl) (Nat.zero_le _) (Nat.zero_le _) dX12_readConfig_153 (fun H locs G => ?_)
    refine W.eq (g2 := F0 m 156 ls [.int r_12]) rfl ?_
    refine lv_istore (lv' := [(7, .int r_12), (0, .ref h0), (1, .int x1), (2, .int x2), (3, .int x3), (4, .int x4), (5, .int x5), (6, .int x6)]) C.1 C.2.1 dX12_readConfig_156 hl (by decide) rfl (fun ls hl => ?_)
    refine lv_aload_n C.1 C.2.1 dX12_readConfig_158 rfl (lv_at hl 1 rfl) ?_
    refine lv_iload_n C.1 C.2.1 dX12_readConfig_159 rfl (lv_at hl 3 rfl) ?_
    refine lv_iload C.1 C.2.1 dX12_readConfig_160 (lv_at hl 0 rfl) ?_
    refine lv_iadd C.1 C.2.1 dX12_readConfig_162 ?_
    refine lv_bipush (v := (32:Int32)) C.1 C.2.1 dX12_readConfig_163 (by decide) ?_
    refine lv_icmp_le (tgt := 172) C.1 C.2.1 dX12_readConfig_165 (by decide) (fun hc => ?_) (fun hc => ?_)
    · rw [if_pos hc] at h
      refine lv_iconst (v := (0:Int32)) C.1 C.2.1 dX12_readConfig_172 (by decide) ?_
      exact wq_readConfig_173i22 C h hP G (lv_sub hl [1, 2, 3, 4, 5, 6, 0] rfl)
    · rw [if_neg hc] at h
      refine lv_iconst (v := (1:Int32)) C.1 C.2.1 dX12_readConfig_168 (by decide) ?_
      refine lv_goto (tgt := 173) C.1 C.2.1 dX12_readConfig_169 (by decide) ?_
      exact wq_readConfig_173i22 C h hP G (lv_sub hl [1, 2, 3, 4, 5, 6, 0] rfl)
  refine lp_recE (fun z : (Int32 × Int32 × rf_S) => ∀ (H : Heap) (locs : List Loc) (ls : Array Slot), rf_G D h0 s z.2.2 H locs → lv_has ls 8 [(0, .ref h0), (1, .int x1), (2, .int x2), (3, .int x3), (4, .int x4), (5, .int x5), (6, .int z.1), (7, .int z.2.1)] → W p l e ({ frames := 1, cells := 0, slots := 0, locals := 22 }) s m args below meth c H locs 0 0 (MQ below (rf_Q D h0 (some (.int r)) ρ') args s 0 0 (rf_A h0)) (F0 m 76 ls [])) (fun z : (Int32 × Int32 × rf_S) => ∀ (H : Heap) (locs : List Loc) (ls : Array Slot), rf_G D h0 s z.2.2 H locs → lv_has ls 8 [(0, .ref h0), (1, .int x1), (2, .int x2), (3, .int x3), (4, .int x4), (5, .int x5), (6, .int z.1), (7, .int z.2.1)] → W p l e ({ frames := 1, cells := 0, slots := 0, locals := 22 }) s m args below meth c H locs 0 0 (MQ below (rf_Q D h0 (some (.int r)) ρ') args s 0 0 (rf_A h0)) (F0 m 143 ls [])) ?_ _ _ hy hE _ _ _ G hl
  clear hE hy G hl h hP
  intro z o h hP H locs ls G hl
  obtain ⟨x6, x7, ρ⟩ := z
  dsimp only at h G hl
  unfold lq_readConfig_76i22 at h
  refine lv_iload C.1 C.2.1 dX12_readConfig_76 (lv_at hl 7 rfl) ?_
  refine lv_iload_n C.1 C.2.1 dX12_readConfig_78 rfl (lv_at hl 3 rfl) ?_
  refine lv_icmp_ge (tgt := 143) C.1 C.2.1 dX12_readConfig_79 (by decide) (fun hc => ?_) (fun hc => ?_)
  · rw [if_pos hc] at h
    cases h
    exact hP _ _ _ G (lv_sub hl [0, 1, 2, 3, 4, 5, 6, 7] rfl)
  · rw [if_neg hc] at h
    refine lv_iload C.1 C.2.1 dX12_readConfig_82 (lv_at hl 6 rfl) ?_
    refine lv_if_ne (tgt := 130) C.1 C.2.1 dX12_readConfig_84 (by decide) (fun hc => ?_) (fun hc => ?_)
    · rw [if_neg hc] at h
      exact wq_readConfig_130i76 C h hP G (lv_sub hl [0, 1, 2, 3, 4, 5, 7] rfl)
    · rw [if_pos hc] at h
      refine lv_iload C.1 C.2.1 dX12_readConfig_87 (lv_at hl 4 rfl) ?_
      refine lv_aload_n C.1 C.2.1 dX12_readConfig_89 rfl (lv_at hl 0 rfl) ?_
      refine gf_117 C G dX12_readConfig_90 ?_
      refine lv_iconst (v := (3:Int32)) C.1 C.2.1 dX12_readConfig_93 (by decide) ?_
      refine lv_iload C.1 C.2.1 dX12_readConfig_94 (lv_at hl 7 rfl) ?_
      refine lv_imul C.1 C.2.1 dX12_readConfig_96 ?_
      obtain ⟨hi, h⟩ := ix_some h
      refine rf_iald C G 79 rfl (by decide) rfl rfl hi dX12_readConfig_97 ?_
      refine lv_aload_n C.1 C.2.1 dX12_readConfig_98 rfl (lv_at hl 0 rfl) ?_
      refine gf_117 C G dX12_readConfig_99 ?_
      refine lv_iconst (v := (3:Int32)) C.1 C.2.1 dX12_readConfig_102 (by decide) ?_
      refine lv_iload C.1 C.2.1 dX12_readConfig_103 (lv_at hl 7 rfl) ?_
      refine lv_imul C.1 C.2.1 dX12_readConfig_105 ?_
      refine lv_iconst (v := (1:Int32)) C.1 C.2.1 dX12_readConfig_106 (by decide) ?_
      refine lv_iadd C.1 C.2.1 dX12_readConfig_107 ?_
      obtain ⟨hi, h⟩ := ix_some h
      refine rf_iald C G 79 rfl (by decide) rfl rfl hi dX12_readConfig_108 ?_
      refine lv_iadd C.1 C.2.1 dX12_readConfig_109 ?_
      refine lv_icmp_ge (tgt := 134) C.1 C.2.1 dX12_readConfig_110 (by decide) (fun hc => ?_) (fun hc => ?_)
      · rw [if_pos hc] at h
        exact wq_readConfig_134i76 C h hP G (lv_sub hl [0, 1, 2, 3, 4, 5, 7] rfl)
      · rw [if_neg hc] at h
        refine lv_aload_n C.1 C.2.1 dX12_readConfig_113 rfl (lv_at hl 0 rfl) ?_
        refine gf_117 C G dX12_readConfig_114 ?_
        refine lv_iconst (v := (3:Int32)) C.1 C.2.1 dX12_readConfig_117 (by decide) ?_
        refine lv_iload C.1 C.2.1 dX12_readConfig_118 (lv_at hl 7 rfl) ?_
        refine lv_imul C.1 C.2.1 dX12_readConfig_120 ?_
        obtain ⟨hi, h⟩ := ix_some h
        refine rf_iald C G 79 rfl (by decide) rfl rfl hi dX12_readConfig_121 ?_
        refine lv_iload C.1 C.2.1 dX12_readConfig_122 (lv_at hl 4 rfl) ?_
        refine lv_iload C.1 C.2.1 dX12_readConfig_124 (lv_at hl 5 rfl) ?_
        refine lv_iadd C.1 C.2.1 dX12_readConfig_126 ?_
        refine lv_icmp_ge (tgt := 134) C.1 C.2.1 dX12_readConfig_127 (by decide) (fun hc => ?_) (fun hc => ?_)
        · rw [if_pos hc] at h
          exact wq_readConfig_134i76 C h hP G (lv_sub hl [0, 1, 2, 3, 4, 5, 7] rfl)
        · rw [if_neg hc] at h
          exact wq_readConfig_130i76 C h hP G (lv_sub hl [0, 1, 2, 3, 4, 5, 7] rfl)
noncomputable def bq_readConfig_71i22 (x1 : Int32) (x2 : Int32) (x3 : Int32) (x4 : Int32) (x5 : Int32) (v0 : Int32) (ρ : rf_S) : Option ((Int32 × Int32 × rf_S) ⊕ (Int32 × Int32 × rf_S)) := bq_readConfig_76i22 x1 x2 x3 x4 x5 v0 (0:Int32) ρ
set_option maxHeartbeats 4000000 in
theorem wq_readConfig_71i22 (C : rf_C D p s m args meth c cX12_readConfig 8 (some .boolean)) {r : Int32} {x1 : Int32} {x2 : Int32} {x3 : Int32} {x4 : Int32} {x5 : Int32} {v0 : Int32} {ρ ρ' : rf_S} {H : Heap} {locs : List Loc} {ls : Array Slot} {o : (Int32 × Int32 × rf_S) ⊕ (Int32 × Int32 × rf_S)} (h : bq_readConfig_71i22 x1 x2 x3 x4 x5 v0 ρ = some o) (hP : Sum.elim (fun z : (Int32 × Int32 × rf_S) => ∀ (H : Heap) (locs : List Loc) (ls : Array Slot), rf_G D h0 s z.2.2 H locs → lv_has ls 8 [(0, .ref h0), (1, .int x1), (2, .int z.1), (3, .int z.2.1)] → W p l e ({ frames := 1, cells := 0, slots := 0, locals := 22 }) s m args below meth c H locs 0 0 (MQ below (rf_Q D h0 (some (.int r)) ρ') args s 0 0 (rf_A h0)) (F0 m 22 ls [])) (fun z : (Int32 × Int32 × rf_S) => ∀ (H : Heap) (locs : List Loc) (ls : Array Slot), rf_G D h0 s z.2.2 H locs → lv_has ls 8 [(0, .ref h0), (1, .int x1), (2, .int z.1), (3, .int z.2.1)] → W p l e ({ frames := 1, cells := 0, slots := 0, locals := 22 }) s m args below meth c H locs 0 0 (MQ below (rf_Q D h0 (some (.int r)) ρ') args s 0 0 (rf_A h0)) (F0 m 221 ls [])) o) (G : rf_G D h0 s ρ H locs) (hl : lv_has ls 8 [(0, .ref h0), (1, .int x1), (2, .int x2), (3, .int x3), (4, .int x4), (5, .int x5)]) : W p l e ({ frames := 1, cells := 0, slots := 0, locals := 22 }) s m args below meth c H locs 0 0 (MQ below (rf_Q D h0 (some (.int r)) ρ') args s 0 0 (rf_A h0)) (F0 m 71 ls [.int v0]) := by
  unfold bq_readConfig_71i22 at h
  refine lv_istore (lv' := [(6, .int v0), (0, .ref h0), (1, .int x1), (2, .int x2), (3, .int x3), (4, .int x4), (5, .int x5)]) C.1 C.2.1 dX12_readConfig_71 hl (by decide) rfl (fun ls hl => ?_)
  refine lv_iconst (v := (0:Int32)) C.1 C.2.1 dX12_readConfig_73 (by decide) ?_
  refine lv_istore (lv' := [(7, .int (0:Int32)), (6, .int v0), (0, .ref h0), (1, .int x1), (2, .int x2), (3, .int x3), (4, .int x4), (5, .int x5)]) C.1 C.2.1 dX12_readConfig_74 hl (by decide) rfl (fun ls hl => ?_)
  exact wq_readConfig_76i22 C h hP G (lv_sub hl [2, 3, 4, 5, 6, 7, 1, 0] rfl)
noncomputable def lq_readConfig_22 (x1 : Int32) (x2 : Int32) (x3 : Int32) (ρ : rf_S) : Option ((Int32 × Int32 × rf_S) ⊕ (Int32 × Int32 × rf_S)) := (if x1 ≤ x3 then some (.inr (x2, x3, ρ)) else (if (ρ.1 0 116) = 0 then bd2 (fq_config (0:Int32) (8176:Int32) ρ) (fun r_6 ρ_5 => bd2 (fq_config (16:Int32) (2048:Int32) ρ_5) (fun r_8 ρ_7 => (if (r_6 + r_8) ≤ (8192:Int32) then bq_readConfig_71i22 x1 x2 x3 r_6 r_8 (0:Int32) ρ_7 else bq_readConfig_71i22 x1 x2 x3 r_6 r_8 (1:Int32) ρ_7))) else some (.inr (x2, x3, ρ))))
noncomputable def bq_readConfig_278i232 (x1 : Int32) (x3 : Int32) (x4 : Int32) (x5 : Int32) (x6 : Int32) (v1 : Int32) (ρ : rf_S) : Option ((Int32 × rf_S) ⊕ (Int32 × rf_S)) := bd1 (fq_refuse v1 ρ) (fun ρ_25 => ix ((24:Int32) + ((3:Int32) * x4)) 200 (vl (rf_w ρ_25 79 ((24:Int32) + ((3:Int32) * x4)).toNatClampNeg x5) (fun ρ_26 => ix ((25:Int32) + ((3:Int32) * x4)) 200 (vl (rf_w ρ_26 79 ((25:Int32) + ((3:Int32) * x4)).toNatClampNeg x6) (fun ρ_27 => bd2 (fq_config (1:Int32) (16:Int32) ρ_27) (fun r_29 ρ_28 => ix ((26:Int32) + ((3:Int32) * x4)) 200 (vl (rf_w ρ_28 79 ((26:Int32) + ((3:Int32) * x4)).toNatClampNeg r_29) (fun ρ_30 => vl (x4 + (1:Int32)) (fun x4_31 => some (.inl (x4_31, ρ_30)))))))))))
set_option maxHeartbeats 4000000 in
theorem wq_readConfig_278i232 (C : rf_C D p s m args meth c cX12_readConfig 8 (some .boolean)) {r : Int32} {x1 : Int32} {x3 : Int32} {x4 : Int32} {x5 : Int32} {x6 : Int32} {v1 : Int32} {ρ ρ' : rf_S} {H : Heap} {locs : List Loc} {ls : Array Slot} {o : (Int32 × rf_S) ⊕ (Int32 × rf_S)} (h : bq_readConfig_278i232 x1 x3 x4 x5 x6 v1 ρ = some o) (hP : Sum.elim (fun z : (Int32 × rf_S) => ∀ (H : Heap) (locs : List Loc) (ls : Array Slot), rf_G D h0 s z.2 H locs → lv_has ls 8 [(0, .ref h0), (1, .int x1), (3, .int x3), (4, .int z.1)] → W p l e ({ frames := 1, cells := 0, slots := 0, locals := 22 }) s m args below meth c H locs 0 0 (MQ below (rf_Q D h0 (some (.int r)) ρ') args s 0 0 (rf_A h0)) (F0 m 232 ls [])) (fun z : (Int32 × rf_S) => ∀ (H : Heap) (locs : List Loc) (ls : Array Slot), rf_G D h0 s z.2 H locs → lv_has ls 8 [(0, .ref h0), (1, .int x1), (3, .int x3), (4, .int z.1)] → W p l e ({ frames := 1, cells := 0, slots := 0, locals := 22 }) s m args below meth c H locs 0 0 (MQ below (rf_Q D h0 (some (.int r)) ρ') args s 0 0 (rf_A h0)) (F0 m 334 ls [])) o) (G : rf_G D h0 s ρ H locs) (hl : lv_has ls 8 [(0, .ref h0), (1, .int x1), (3, .int x3), (4, .int x4), (5, .int x5), (6, .int x6)]) : W p l e ({ frames := 1, cells := 0, slots := 0, locals := 22 }) s m args below meth c H locs 0 0 (MQ below (rf_Q D h0 (some (.int r)) ρ') args s 0 0 (rf_A h0)) (F0 m 278 ls [.int v1, .ref h0]) := by
  unfold bq_readConfig_278i232 at h
  obtain ⟨ρ_25, hq, h⟩ := bd1_some h
  refine rf_callV (rest := []) C G cw_refuse [.int v1] _ (kq_refuse l D h0 hq) (Nat.le_of_ble_eq_true rfl) (Nat.le_of_ble_eq_true rfl) rfl rfl hl.1 (Nat.le_of_ble_eq_true rfl) (Nat.zero_le _) (Nat.zero_le _) dX12_readConfig_278 (fun H locs G => ?_)
  refine W.eq (g2 := F0 m 281 ls []) rfl ?_
  refine lv_aload_n C.1 C.2.1 dX12_readConfig_281 rfl (lv_at hl 0 rfl) ?_
  refine gf_117 C G dX12_readConfig_282 ?_
  refine lv_bipush (v := (24:Int32)) C.1 C.2.1 dX12_readConfig_285 (by decide) ?_
  refine lv_iconst (v := (3:Int32)) C.1 C.2.1 dX12_readConfig_287 (by decide) ?_
  refine lv_iload C.1 C.2.1 dX12_readConfig_288 (lv_at hl 3 rfl) ?_
  refine lv_imul C.1 C.2.1 dX12_readConfig_290 ?_
  refine lv_iadd C.1 C.2.1 dX12_readConfig_291 ?_
  refine lv_iload C.1 C.2.1 dX12_readConfig_292 (lv_at hl 4 rfl) ?_
  obtain ⟨hi, h⟩ := ix_some h
  refine rf_iast C G 79 rfl (by decide) rfl rfl hi dX12_readConfig_294 (fun H locs G => ?_)
  refine rf_nm G h (fun ρ_26 G h => ?_)
  refine lv_aload_n C.1 C.2.1 dX12_readConfig_295 rfl (lv_at hl 0 rfl) ?_
  refine gf_117 C G dX12_readConfig_296 ?_
  refine lv_bipush (v := (25:Int32)) C.1 C.2.1 dX12_readConfig_299 (by decide) ?_
  refine lv_iconst (v := (3:Int32)) C.1 C.2.1 dX12_readConfig_301 (by decide) ?_
  refine lv_iload C.1 C.2.1 dX12_readConfig_302 (lv_at hl 3 rfl) ?_
  refine lv_imul C.1 C.2.1 dX12_readConfig_304 ?_
  refine lv_iadd C.1 C.2.1 dX12_readConfig_305 ?_
  refine lv_iload C.1 C.2.1 dX12_readConfig_306 (lv_at hl 5 rfl) ?_
  obtain ⟨hi, h⟩ := ix_some h
  refine rf_iast C G 79 rfl (by decide) rfl rfl hi dX12_readConfig_308 (fun H locs G => ?_)
  refine rf_nm G h (fun ρ_27 G h => ?_)
  refine lv_aload_n C.1 C.2.1 dX12_readConfig_309 rfl (lv_at hl 0 rfl) ?_
  refine gf_117 C G dX12_readConfig_310 ?_
  refine lv_bipush (v := (26:Int32)) C.1 C.2.1 dX12_readConfig_313 (by decide) ?_
  refine lv_iconst (v := (3:Int32)) C.1 C.2.1 dX12_readConfig_315 (by decide) ?_
  refine lv_iload C.1 C.2.1 dX12_readConfig_316 (lv_at hl 3 rfl) ?_
  refine lv_imul C.1 C.2.1 dX12_readConfig_318 ?_
  refine lv_iadd C.1 C.2.1 dX12_readConfig_319 ?_
  refine lv_aload_n C.1 C.2.1 dX12_readConfig_320 rfl (lv_at hl 0 rfl) ?_
  refine lv_iconst (v := (1:Int32)) C.1 C.2.1 dX12_readConfig_321 (by decide) ?_
  refine lv_bipush (v := (16:Int32)) C.1 C.2.1 dX12_readConfig_322 (by decide) ?_
  obtain ⟨r_29, ρ_28, hq, h⟩ := bd2_some h
  refine rf_callV (rest := [.int ((26:Int32) + ((3:Int32) * x4)), .ref (h0 + 79)]) C G cw_config [.int (1:Int32), .int (16:Int32)] _ (kq_config l D h0 hq) (Nat.le_of_ble_eq_true rfl) (Nat.le_of_ble_eq_true rfl) rfl rfl hl.1 (Nat.le_of_ble_eq_true rfl) (Nat.zero_le _) (Nat.zero_le _) dX12_readConfig_324 (fun H locs G => ?_)
  refine W.eq (g2 := F0 m 327 ls [.int r_29, .int ((26:Int32) + ((3:Int32) * x4)), .ref (h0 + 79)]) rfl ?_
  obtain ⟨hi, h⟩ := ix_some h
  refine rf_iast C G 79 rfl (by decide) rfl rfl hi dX12_readConfig_327 (fun H locs G => ?_)
  refine rf_nm G h (fun ρ_30 G h => ?_)
  refine vl_ex h (fun x4_31 ey h => ?_)
  refine lv_iinc (v := x4_31) (lv' := [(4, .int x4_31), (0, .ref h0), (1, .int x1), (3, .int x3), (5, .int x5), (6, .int x6)]) C.1 C.2.1 dX12_readConfig_328 hl (k := 3) rfl (by rw [ey]; rfl) (by decide) rfl (fun ls hl => ?_)
  refine lv_goto (tgt := 232) C.1 C.2.1 dX12_readConfig_331 (by decide) ?_
  cases h
  exact hP _ _ _ G (lv_sub hl [1, 2, 3, 0] rfl)
noncomputable def lq_readConfig_232 (x1 : Int32) (x3 : Int32) (x4 : Int32) (ρ : rf_S) : Option ((Int32 × rf_S) ⊕ (Int32 × rf_S)) := (if x3 ≤ x4 then some (.inr (x4, ρ)) else (if (ρ.1 0 116) = 0 then bd2 (fq_config (0:Int32) (x1 - (1:Int32)) ρ) (fun r_22 ρ_21 => bd2 (fq_config (0:Int32) (x1 - (1:Int32)) ρ_21) (fun r_24 ρ_23 => (if r_24 = r_22 then bq_readConfig_278i232 x1 x3 x4 r_22 r_24 (1:Int32) ρ_23 else bq_readConfig_278i232 x1 x3 x4 r_22 r_24 (0:Int32) ρ_23))) else some (.inr (x4, ρ))))
noncomputable def bq_readConfig_390i346 (x1 : Int32) (x3 : Int32) (x4 : Int32) (x5 : Int32) (x6 : Int32) (v1 : Int32) (ρ : rf_S) : Option ((Int32 × rf_S) ⊕ (Int32 × rf_S)) := bd1 (fq_refuse v1 ρ) (fun ρ_36 => ix ((72:Int32) + ((2:Int32) * x5)) 200 (vl (rf_w ρ_36 79 ((72:Int32) + ((2:Int32) * x5)).toNatClampNeg x6) (fun ρ_37 => bd2 (fq_config (1:Int32) (1000:Int32) ρ_37) (fun r_39 ρ_38 => ix ((73:Int32) + ((2:Int32) * x5)) 200 (vl (rf_w ρ_38 79 ((73:Int32) + ((2:Int32) * x5)).toNatClampNeg r_39) (fun ρ_40 => vl (x5 + (1:Int32)) (fun x5_41 => some (.inl (x5_41, ρ_40)))))))))
set_option maxHeartbeats 4000000 in
theorem wq_readConfig_390i346 (C : rf_C D p s m args meth c cX12_readConfig 8 (some .boolean)) {r : Int32} {x1 : Int32} {x3 : Int32} {x4 : Int32} {x5 : Int32} {x6 : Int32} {v1 : Int32} {ρ ρ' : rf_S} {H : Heap} {locs : List Loc} {ls : Array Slot} {o : (Int32 × rf_S) ⊕ (Int32 × rf_S)} (h : bq_readConfig_390i346 x1 x3 x4 x5 x6 v1 ρ = some o) (hP : Sum.elim (fun z : (Int32 × rf_S) => ∀ (H : Heap) (locs : List Loc) (ls : Array Slot), rf_G D h0 s z.2 H locs → lv_has ls 8 [(0, .ref h0), (1, .int x1), (3, .int x3), (4, .int x4), (5, .int z.1)] → W p l e ({ frames := 1, cells := 0, slots := 0, locals := 22 }) s m args below meth c H locs 0 0 (MQ below (rf_Q D h0 (some (.int r)) ρ') args s 0 0 (rf_A h0)) (F0 m 346 ls [])) (fun z : (Int32 × rf_S) => ∀ (H : Heap) (locs : List Loc) (ls : Array Slot), rf_G D h0 s z.2 H locs → lv_has ls 8 [(0, .ref h0), (1, .int x1), (3, .int x3), (4, .int x4), (5, .int z.1)] → W p l e ({ frames := 1, cells := 0, slots := 0, locals := 22 }) s m args below meth c H locs 0 0 (MQ below (rf_Q D h0 (some (.int r)) ρ') args s 0 0 (rf_A h0)) (F0 m 433 ls [])) o) (G : rf_G D h0 s ρ H locs) (hl : lv_has ls 8 [(0, .ref h0), (1, .int x1), (3, .int x3), (4, .int x4), (5, .int x5), (6, .int x6)]) : W p l e ({ frames := 1, cells := 0, slots := 0, locals := 22 }) s m args below meth c H locs 0 0 (MQ below (rf_Q D h0 (some (.int r)) ρ') args s 0 0 (rf_A h0)) (F0 m 390 ls [.int v1, .ref h0]) := by
  unfold bq_readConfig_390i346 at h
  obtain ⟨ρ_36, hq, h⟩ := bd1_some h
  refine rf_callV (rest := []) C G cw_refuse [.int v1] _ (kq_refuse l D h0 hq) (Nat.le_of_ble_eq_true rfl) (Nat.le_of_ble_eq_true rfl) rfl rfl hl.1 (Nat.le_of_ble_eq_true rfl) (Nat.zero_le _) (Nat.zero_le _) dX12_readConfig_390 (fun H locs G => ?_)
  refine W.eq (g2 := F0 m 393 ls []) rfl ?_
  refine lv_aload_n C.1 C.2.1 dX12_readConfig_393 rfl (lv_at hl 0 rfl) ?_
  refine gf_117 C G dX12_readConfig_394 ?_
  refine lv_bipush (v := (72:Int32)) C.1 C.2.1 dX12_readConfig_397 (by decide) ?_
  refine lv_iconst (v := (2:Int32)) C.1 C.2.1 dX12_readConfig_399 (by decide) ?_
  refine lv_iload C.1 C.2.1 dX12_readConfig_400 (lv_at hl 4 rfl) ?_
  refine lv_imul C.1 C.2.1 dX12_readConfig_402 ?_
  refine lv_iadd C.1 C.2.1 dX12_readConfig_403 ?_
  refine lv_iload C.1 C.2.1 dX12_readConfig_404 (lv_at hl 5 rfl) ?_
  obtain ⟨hi, h⟩ := ix_some h
  refine rf_iast C G 79 rfl (by decide) rfl rfl hi dX12_readConfig_406 (fun H locs G => ?_)
  refine rf_nm G h (fun ρ_37 G h => ?_)
  refine lv_aload_n C.1 C.2.1 dX12_readConfig_407 rfl (lv_at hl 0 rfl) ?_
  refine gf_117 C G dX12_readConfig_408 ?_
  refine lv_bipush (v := (73:Int32)) C.1 C.2.1 dX12_readConfig_411 (by decide) ?_
  refine lv_iconst (v := (2:Int32)) C.1 C.2.1 dX12_readConfig_413 (by decide) ?_
  refine lv_iload C.1 C.2.1 dX12_readConfig_414 (lv_at hl 4 rfl) ?_
  refine lv_imul C.1 C.2.1 dX12_readConfig_416 ?_
  refine lv_iadd C.1 C.2.1 dX12_readConfig_417 ?_
  refine lv_aload_n C.1 C.2.1 dX12_readConfig_418 rfl (lv_at hl 0 rfl) ?_
  refine lv_iconst (v := (1:Int32)) C.1 C.2.1 dX12_readConfig_419 (by decide) ?_
  refine lv_sipush (v := (1000:Int32)) C.1 C.2.1 dX12_readConfig_420 (by decide) ?_
  obtain ⟨r_39, ρ_38, hq, h⟩ := bd2_some h
  refine rf_callV (rest := [.int ((73:Int32) + ((2:Int32) * x5)), .ref (h0 + 79)]) C G cw_config [.int (1:Int32), .int (1000:Int32)] _ (kq_config l D h0 hq) (Nat.le_of_ble_eq_true rfl) (Nat.le_of_ble_eq_true rfl) rfl rfl hl.1 (Nat.le_of_ble_eq_true rfl) (Nat.zero_le _) (Nat.zero_le _) dX12_readConfig_423 (fun H locs G => ?_)
  refine W.eq (g2 := F0 m 426 ls [.int r_39, .int ((73:Int32) + ((2:Int32) * x5)), .ref (h0 + 79)]) rfl ?_
  obtain ⟨hi, h⟩ := ix_some h
  refine rf_iast C G 79 rfl (by decide) rfl rfl hi dX12_readConfig_426 (fun H locs G => ?_)
  refine rf_nm G h (fun ρ_40 G h => ?_)
  refine vl_ex h (fun x5_41 ey h => ?_)
  refine lv_iinc (v := x5_41) (lv' := [(5, .int x5_41), (0, .ref h0), (1, .int x1), (3, .int x3), (4, .int x4), (6, .int x6)]) C.1 C.2.1 dX12_readConfig_427 hl (k := 4) rfl (by rw [ey]; rfl) (by decide) rfl (fun ls hl => ?_)
  refine lv_goto (tgt := 346) C.1 C.2.1 dX12_readConfig_430 (by decide) ?_
  cases h
  exact hP _ _ _ G (lv_sub hl [1, 2, 3, 4, 0] rfl)
noncomputable def bq_readConfig_389i346 (x1 : Int32) (x3 : Int32) (x4 : Int32) (x5 : Int32) (x6 : Int32) (ρ : rf_S) : Option ((Int32 × rf_S) ⊕ (Int32 × rf_S)) := bq_readConfig_390i346 x1 x3 x4 x5 x6 (0:Int32) ρ
set_option maxHeartbeats 4000000 in
theorem wq_readConfig_389i346 (C : rf_C D p s m args meth c cX12_readConfig 8 (some .boolean)) {r : Int32} {x1 : Int32} {x3 : Int32} {x4 : Int32} {x5 : Int32} {x6 : Int32} {ρ ρ' : rf_S} {H : Heap} {locs : List Loc} {ls : Array Slot} {o : (Int32 × rf_S) ⊕ (Int32 × rf_S)} (h : bq_readConfig_389i346 x1 x3 x4 x5 x6 ρ = some o) (hP : Sum.elim (fun z : (Int32 × rf_S) => ∀ (H : Heap) (locs : List Loc) (ls : Array Slot), rf_G D h0 s z.2 H locs → lv_has ls 8 [(0, .ref h0), (1, .int x1), (3, .int x3), (4, .int x4), (5, .int z.1)] → W p l e ({ frames := 1, cells := 0, slots := 0, locals := 22 }) s m args below meth c H locs 0 0 (MQ below (rf_Q D h0 (some (.int r)) ρ') args s 0 0 (rf_A h0)) (F0 m 346 ls [])) (fun z : (Int32 × rf_S) => ∀ (H : Heap) (locs : List Loc) (ls : Array Slot), rf_G D h0 s z.2 H locs → lv_has ls 8 [(0, .ref h0), (1, .int x1), (3, .int x3), (4, .int x4), (5, .int z.1)] → W p l e ({ frames := 1, cells := 0, slots := 0, locals := 22 }) s m args below meth c H locs 0 0 (MQ below (rf_Q D h0 (some (.int r)) ρ') args s 0 0 (rf_A h0)) (F0 m 433 ls [])) o) (G : rf_G D h0 s ρ H locs) (hl : lv_has ls 8 [(0, .ref h0), (1, .int x1), (3, .int x3), (4, .int x4), (5, .int x5), (6, .int x6)]) : W p l e ({ frames := 1, cells := 0, slots := 0, locals := 22 }) s m args below meth c H locs 0 0 (MQ below (rf_Q D h0 (some (.int r)) ρ') args s 0 0 (rf_A h0)) (F0 m 389 ls [.ref h0]) := by
  unfold bq_readConfig_389i346 at h
  refine lv_iconst (v := (0:Int32)) C.1 C.2.1 dX12_readConfig_389 (by decide) ?_
  exact wq_readConfig_390i346 C h hP G (lv_sub hl [0, 1, 2, 3, 4, 5] rfl)
noncomputable def lq_readConfig_346 (x1 : Int32) (x3 : Int32) (x4 : Int32) (x5 : Int32) (ρ : rf_S) : Option ((Int32 × rf_S) ⊕ (Int32 × rf_S)) := (if x4 ≤ x5 then some (.inr (x5, ρ)) else (if (ρ.1 0 116) = 0 then bd2 (fq_config (0:Int32) (255:Int32) ρ) (fun r_35 ρ_34 => (if r_35 < x1 then bq_readConfig_389i346 x1 x3 x4 x5 r_35 ρ_34 else (if r_35 = (255:Int32) then bq_readConfig_389i346 x1 x3 x4 x5 r_35 ρ_34 else bq_readConfig_390i346 x1 x3 x4 x5 r_35 (1:Int32) ρ_34))) else some (.inr (x5, ρ))))
noncomputable def bq_readConfig_433 (x1 : Int32) (x3 : Int32) (x4 : Int32) (ρ : rf_S) : Option (Int32 × rf_S) := (if (ρ.1 0 116) = 0 then ix (9:Int32) 10 ((if (ρ.1 27 (9:Int32).toNatClampNeg) ≤ (ρ.1 0 115) then ix (196:Int32) 200 (vl (rf_w ρ 79 (196:Int32).toNatClampNeg x1) (fun ρ_42 => ix (197:Int32) 200 (vl (rf_w ρ_42 79 (197:Int32).toNatClampNeg x3) (fun ρ_43 => ix (198:Int32) 200 (vl (rf_w ρ_43 79 (198:Int32).toNatClampNeg x4) (fun ρ_44 => some ((1:Int32), ρ_44))))))) else some ((0:Int32), ρ))) else some ((0:Int32), ρ))
set_option maxHeartbeats 4000000 in
theorem wq_readConfig_433 (C : rf_C D p s m args meth c cX12_readConfig 8 (some .boolean)) {r : Int32} {x1 : Int32} {x3 : Int32} {x4 : Int32} {ρ ρ' : rf_S} {H : Heap} {locs : List Loc} {ls : Array Slot} (h : bq_readConfig_433 x1 x3 x4 ρ = some (r, ρ')) (G : rf_G D h0 s ρ H locs) (hl : lv_has ls 8 [(0, .ref h0), (1, .int x1), (3, .int x3), (4, .int x4)]) : W p l e ({ frames := 1, cells := 0, slots := 0, locals := 22 }) s m args below meth c H locs 0 0 (MQ below (rf_Q D h0 (some (.int r)) ρ') args s 0 0 (rf_A h0)) (F0 m 433 ls []) := by
  unfold bq_readConfig_433 at h
  refine lv_aload_n C.1 C.2.1 dX12_readConfig_433 rfl (lv_at hl 0 rfl) ?_
  refine gf_116 C G dX12_readConfig_434 ?_
  refine lv_if_ne (tgt := 454) C.1 C.2.1 dX12_readConfig_437 (by decide) (fun hc => ?_) (fun hc => ?_)
  · rw [if_neg hc] at h
    refine lv_iconst (v := (0:Int32)) C.1 C.2.1 dX12_readConfig_454 (by decide) ?_
    exact rf_zret C G h rfl dX12_readConfig_455
  · rw [if_pos hc] at h
    refine lv_aload_n C.1 C.2.1 dX12_readConfig_440 rfl (lv_at hl 0 rfl) ?_
    refine gf_115 C G dX12_readConfig_441 ?_
    refine lv_aload_n C.1 C.2.1 dX12_readConfig_444 rfl (lv_at hl 0 rfl) ?_
    refine gf_50 C G dX12_readConfig_445 ?_
    refine lv_bipush (v := (9:Int32)) C.1 C.2.1 dX12_readConfig_448 (by decide) ?_
    obtain ⟨hi, h⟩ := ix_some h
    refine rf_iald C G 27 rfl (by decide) rfl rfl hi dX12_readConfig_450 ?_
    refine lv_icmp_ge (tgt := 456) C.1 C.2.1 dX12_readConfig_451 (by decide) (fun hc => ?_) (fun hc => ?_)
    · rw [if_pos hc] at h
      refine lv_aload_n C.1 C.2.1 dX12_readConfig_456 rfl (lv_at hl 0 rfl) ?_
      refine gf_117 C G dX12_readConfig_457 ?_
      refine lv_sipush (v := (196:Int32)) C.1 C.2.1 dX12_readConfig_460 (by decide) ?_
      refine lv_iload_n C.1 C.2.1 dX12_readConfig_463 rfl (lv_at hl 1 rfl) ?_
      obtain ⟨hi, h⟩ := ix_some h
      refine rf_iast C G 79 rfl (by decide) rfl rfl hi dX12_readConfig_464 (fun H locs G => ?_)
      refine rf_nm G h (fun ρ_42 G h => ?_)
      refine lv_aload_n C.1 C.2.1 dX12_readConfig_465 rfl (lv_at hl 0 rfl) ?_
      refine gf_117 C G dX12_readConfig_466 ?_
      refine lv_sipush (v := (197:Int32)) C.1 C.2.1 dX12_readConfig_469 (by decide) ?_
      refine lv_iload_n C.1 C.2.1 dX12_readConfig_472 rfl (lv_at hl 2 rfl) ?_
      obtain ⟨hi, h⟩ := ix_some h
      refine rf_iast C G 79 rfl (by decide) rfl rfl hi dX12_readConfig_473 (fun H locs G => ?_)
      refine rf_nm G h (fun ρ_43 G h => ?_)
      refine lv_aload_n C.1 C.2.1 dX12_readConfig_474 rfl (lv_at hl 0 rfl) ?_
      refine gf_117 C G dX12_readConfig_475 ?_
      refine lv_sipush (v := (198:Int32)) C.1 C.2.1 dX12_readConfig_478 (by decide) ?_
      refine lv_iload C.1 C.2.1 dX12_readConfig_481 (lv_at hl 3 rfl) ?_
      obtain ⟨hi, h⟩ := ix_some h
      refine rf_iast C G 79 rfl (by decide) rfl rfl hi dX12_readConfig_483 (fun H locs G => ?_)
      refine rf_nm G h (fun ρ_44 G h => ?_)
      refine lv_iconst (v := (1:Int32)) C.1 C.2.1 dX12_readConfig_484 (by decide) ?_
      exact rf_zret C G h rfl dX12_readConfig_485
    · rw [if_neg hc] at h
      refine lv_iconst (v := (0:Int32)) C.1 C.2.1 dX12_readConfig_454 (by decide) ?_
      exact rf_zret C G h rfl dX12_readConfig_455
noncomputable def eq_readConfig_346 (x1 : Int32) (x3 : Int32) (x4 : Int32) (x5 : Int32) (ρ : rf_S) : Option (Int32 × rf_S) := bq_readConfig_433 x1 x3 x4 ρ
noncomputable def bq_readConfig_346 (x1 : Int32) (x3 : Int32) (x4 : Int32) (x5 : Int32) (ρ : rf_S) : Option (Int32 × rf_S) := (lp (fun z : (Int32 × rf_S) => lq_readConfig_346 x1 x3 x4 z.1 z.2) (x5, ρ)).bind (fun z => eq_readConfig_346 x1 x3 x4 z.1 z.2)
set_option maxHeartbeats 4000000 in
theorem wq_readConfig_346 (C : rf_C D p s m args meth c cX12_readConfig 8 (some .boolean)) {r : Int32} {x1 : Int32} {x3 : Int32} {x4 : Int32} {x5 : Int32} {ρ ρ' : rf_S} {H : Heap} {locs : List Loc} {ls : Array Slot} (h : bq_readConfig_346 x1 x3 x4 x5 ρ = some (r, ρ')) (G : rf_G D h0 s ρ H locs) (hl : lv_has ls 8 [(0, .ref h0), (1, .int x1), (3, .int x3), (4, .int x4), (5, .int x5)]) : W p l e ({ frames := 1, cells := 0, slots := 0, locals := 22 }) s m args below meth c H locs 0 0 (MQ below (rf_Q D h0 (some (.int r)) ρ') args s 0 0 (rf_A h0)) (F0 m 346 ls []) := by
  unfold bq_readConfig_346 at h
  obtain ⟨y, hy, h⟩ := bd_some h
  have hE : (fun z : (Int32 × rf_S) => ∀ (H : Heap) (locs : List Loc) (ls : Array Slot), rf_G D h0 s z.2 H locs → lv_has ls 8 [(0, .ref h0), (1, .int x1), (3, .int x3), (4, .int x4), (5, .int z.1)] → W p l e ({ frames := 1, cells := 0, slots := 0, locals := 22 }) s m args below meth c H locs 0 0 (MQ below (rf_Q D h0 (some (.int r)) ρ') args s 0 0 (rf_A h0)) (F0 m 433 ls [])) y := by
    intro H locs ls G hl
    obtain ⟨x5, ρ⟩ := y
    dsimp only at h G hl
    unfold eq_readConfig_346 at h
    exact wq_readConfig_433 C h G (lv_sub hl [0, 1, 2, 3] rfl)
  refine lp_recE (fun z : (Int32 × rf_S) => ∀ (H : Heap) (locs : List Loc) (ls : Array Slot), rf_G D h0 s z.2 H locs → lv_has ls 8 [(0, .ref h0), (1, .int x1), (3, .int x3), (4, .int x4), (5, .int z.1)] → W p l e ({ frames := 1, cells := 0, slots := 0, locals := 22 }) s m args below meth c H locs 0 0 (MQ below (rf_Q D h0 (some (.int r)) ρ') args s 0 0 (rf_A h0)) (F0 m 346 ls [])) (fun z : (Int32 × rf_S) => ∀ (H : Heap) (locs : List Loc) (ls : Array Slot), rf_G D h0 s z.2 H locs → lv_has ls 8 [(0, .ref h0), (1, .int x1), (3, .int x3), (4, .int x4), (5, .int z.1)] → W p l e ({ frames := 1, cells := 0, slots := 0, locals := 22 }) s m args below meth c H locs 0 0 (MQ below (rf_Q D h0 (some (.int r)) ρ') args s 0 0 (rf_A h0)) (F0 m 433 ls [])) ?_ _ _ hy hE _ _ _ G hl
  clear hE hy G hl h
  intro z o h hP H locs ls G hl
  obtain ⟨x5, ρ⟩ := z
  dsimp only at h G hl
  unfold lq_readConfig_346 at h
  refine lv_iload C.1 C.2.1 dX12_readConfig_346 (lv_at hl 4 rfl) ?_
  refine lv_iload C.1 C.2.1 dX12_readConfig_348 (lv_at hl 3 rfl) ?_
  refine lv_icmp_ge (tgt := 433) C.1 C.2.1 dX12_readConfig_350 (by decide) (fun hc => ?_) (fun hc => ?_)
  · rw [if_pos hc] at h
    cases h
    exact hP _ _ _ G (lv_sub hl [0, 1, 2, 3, 4] rfl)
  · rw [if_neg hc] at h
    refine lv_aload_n C.1 C.2.1 dX12_readConfig_353 rfl (lv_at hl 0 rfl) ?_
    refine gf_116 C G dX12_readConfig_354 ?_
    refine lv_if_ne (tgt := 433) C.1 C.2.1 dX12_readConfig_357 (by decide) (fun hc => ?_) (fun hc => ?_)
    · rw [if_neg hc] at h
      cases h
      exact hP _ _ _ G (lv_sub hl [0, 1, 2, 3, 4] rfl)
    · rw [if_pos hc] at h
      refine lv_aload_n C.1 C.2.1 dX12_readConfig_360 rfl (lv_at hl 0 rfl) ?_
      refine lv_iconst (v := (0:Int32)) C.1 C.2.1 dX12_readConfig_361 (by decide) ?_
      refine lv_sipush (v := (255:Int32)) C.1 C.2.1 dX12_readConfig_362 (by decide) ?_
      obtain ⟨r_35, ρ_34, hq, h⟩ := bd2_some h
      refine rf_callV (rest := []) C G cw_config [.int (0:Int32), .int (255:Int32)] _ (kq_config l D h0 hq) (Nat.le_of_ble_eq_true rfl) (Nat.le_of_ble_eq_true rfl) rfl rfl hl.1 (Nat.le_of_ble_eq_true rfl) (Nat.zero_le _) (Nat.zero_le _) dX12_readConfig_365 (fun H locs G => ?_)
      refine W.eq (g2 := F0 m 368 ls [.int r_35]) rfl ?_
      refine lv_istore (lv' := [(6, .int r_35), (0, .ref h0), (1, .int x1), (3, .int x3), (4, .int x4), (5, .int x5)]) C.1 C.2.1 dX12_readConfig_368 hl (by decide) rfl (fun ls hl => ?_)
      refine lv_aload_n C.1 C.2.1 dX12_readConfig_370 rfl (lv_at hl 1 rfl) ?_
      refine lv_iload C.1 C.2.1 dX12_readConfig_371 (lv_at hl 0 rfl) ?_
      refine lv_iload_n C.1 C.2.1 dX12_readConfig_373 rfl (lv_at hl 2 rfl) ?_
      refine lv_icmp_lt (tgt := 389) C.1 C.2.1 dX12_readConfig_374 (by decide) (fun hc => ?_) (fun hc => ?_)
      · rw [if_pos hc] at h
        exact wq_readConfig_389i346 C h hP G (lv_sub hl [1, 2, 3, 4, 5, 0] rfl)
      · rw [if_neg hc] at h
        refine lv_iload C.1 C.2.1 dX12_readConfig_377 (lv_at hl 0 rfl) ?_
        refine lv_sipush (v := (255:Int32)) C.1 C.2.1 dX12_readConfig_379 (by decide) ?_
        refine lv_icmp_eq (tgt := 389) C.1 C.2.1 dX12_readConfig_382 (by decide) (fun hc => ?_) (fun hc => ?_)
        · rw [if_pos hc] at h
          exact wq_readConfig_389i346 C h hP G (lv_sub hl [1, 2, 3, 4, 5, 0] rfl)
        · rw [if_neg hc] at h
          refine lv_iconst (v := (1:Int32)) C.1 C.2.1 dX12_readConfig_385 (by decide) ?_
          refine lv_goto (tgt := 390) C.1 C.2.1 dX12_readConfig_386 (by decide) ?_
          exact wq_readConfig_390i346 C h hP G (lv_sub hl [1, 2, 3, 4, 5, 0] rfl)
noncomputable def bq_readConfig_334 (x1 : Int32) (x3 : Int32) (ρ : rf_S) : Option (Int32 × rf_S) := bd2 (fq_config (1:Int32) (32:Int32) ρ) (fun r_33 ρ_32 => bq_readConfig_346 x1 x3 r_33 (0:Int32) ρ_32)
set_option maxHeartbeats 4000000 in
theorem wq_readConfig_334 (C : rf_C D p s m args meth c cX12_readConfig 8 (some .boolean)) {r : Int32} {x1 : Int32} {x3 : Int32} {ρ ρ' : rf_S} {H : Heap} {locs : List Loc} {ls : Array Slot} (h : bq_readConfig_334 x1 x3 ρ = some (r, ρ')) (G : rf_G D h0 s ρ H locs) (hl : lv_has ls 8 [(0, .ref h0), (1, .int x1), (3, .int x3)]) : W p l e ({ frames := 1, cells := 0, slots := 0, locals := 22 }) s m args below meth c H locs 0 0 (MQ below (rf_Q D h0 (some (.int r)) ρ') args s 0 0 (rf_A h0)) (F0 m 334 ls []) := by
  unfold bq_readConfig_334 at h
  refine lv_aload_n C.1 C.2.1 dX12_readConfig_334 rfl (lv_at hl 0 rfl) ?_
  refine lv_iconst (v := (1:Int32)) C.1 C.2.1 dX12_readConfig_335 (by decide) ?_
  refine lv_bipush (v := (32:Int32)) C.1 C.2.1 dX12_readConfig_336 (by decide) ?_
  obtain ⟨r_33, ρ_32, hq, h⟩ := bd2_some h
  refine rf_callV (rest := []) C G cw_config [.int (1:Int32), .int (32:Int32)] _ (kq_config l D h0 hq) (Nat.le_of_ble_eq_true rfl) (Nat.le_of_ble_eq_true rfl) rfl rfl hl.1 (Nat.le_of_ble_eq_true rfl) (Nat.zero_le _) (Nat.zero_le _) dX12_readConfig_338 (fun H locs G => ?_)
  refine W.eq (g2 := F0 m 341 ls [.int r_33]) rfl ?_
  refine lv_istore (lv' := [(4, .int r_33), (0, .ref h0), (1, .int x1), (3, .int x3)]) C.1 C.2.1 dX12_readConfig_341 hl (by decide) rfl (fun ls hl => ?_)
  refine lv_iconst (v := (0:Int32)) C.1 C.2.1 dX12_readConfig_343 (by decide) ?_
  refine lv_istore (lv' := [(5, .int (0:Int32)), (4, .int r_33), (0, .ref h0), (1, .int x1), (3, .int x3)]) C.1 C.2.1 dX12_readConfig_344 hl (by decide) rfl (fun ls hl => ?_)
  exact wq_readConfig_346 C h G (lv_sub hl [2, 3, 4, 1, 0] rfl)
noncomputable def eq_readConfig_232 (x1 : Int32) (x3 : Int32) (x4 : Int32) (ρ : rf_S) : Option (Int32 × rf_S) := bq_readConfig_334 x1 x3 ρ
noncomputable def bq_readConfig_232 (x1 : Int32) (x3 : Int32) (x4 : Int32) (ρ : rf_S) : Option (Int32 × rf_S) := (lp (fun z : (Int32 × rf_S) => lq_readConfig_232 x1 x3 z.1 z.2) (x4, ρ)).bind (fun z => eq_readConfig_232 x1 x3 z.1 z.2)
set_option maxHeartbeats 4000000 in
theorem wq_readConfig_232 (C : rf_C D p s m args meth c cX12_readConfig 8 (some .boolean)) {r : Int32} {x1 : Int32} {x3 : Int32} {x4 : Int32} {ρ ρ' : rf_S} {H : Heap} {locs : List Loc} {ls : Array Slot} (h : bq_readConfig_232 x1 x3 x4 ρ = some (r, ρ')) (G : rf_G D h0 s ρ H locs) (hl : lv_has ls 8 [(0, .ref h0), (1, .int x1), (3, .int x3), (4, .int x4)]) : W p l e ({ frames := 1, cells := 0, slots := 0, locals := 22 }) s m args below meth c H locs 0 0 (MQ below (rf_Q D h0 (some (.int r)) ρ') args s 0 0 (rf_A h0)) (F0 m 232 ls []) := by
  unfold bq_readConfig_232 at h
  obtain ⟨y, hy, h⟩ := bd_some h
  have hE : (fun z : (Int32 × rf_S) => ∀ (H : Heap) (locs : List Loc) (ls : Array Slot), rf_G D h0 s z.2 H locs → lv_has ls 8 [(0, .ref h0), (1, .int x1), (3, .int x3), (4, .int z.1)] → W p l e ({ frames := 1, cells := 0, slots := 0, locals := 22 }) s m args below meth c H locs 0 0 (MQ below (rf_Q D h0 (some (.int r)) ρ') args s 0 0 (rf_A h0)) (F0 m 334 ls [])) y := by
    intro H locs ls G hl
    obtain ⟨x4, ρ⟩ := y
    dsimp only at h G hl
    unfold eq_readConfig_232 at h
    exact wq_readConfig_334 C h G (lv_sub hl [0, 1, 2] rfl)
  refine lp_recE (fun z : (Int32 × rf_S) => ∀ (H : Heap) (locs : List Loc) (ls : Array Slot), rf_G D h0 s z.2 H locs → lv_has ls 8 [(0, .ref h0), (1, .int x1), (3, .int x3), (4, .int z.1)] → W p l e ({ frames := 1, cells := 0, slots := 0, locals := 22 }) s m args below meth c H locs 0 0 (MQ below (rf_Q D h0 (some (.int r)) ρ') args s 0 0 (rf_A h0)) (F0 m 232 ls [])) (fun z : (Int32 × rf_S) => ∀ (H : Heap) (locs : List Loc) (ls : Array Slot), rf_G D h0 s z.2 H locs → lv_has ls 8 [(0, .ref h0), (1, .int x1), (3, .int x3), (4, .int z.1)] → W p l e ({ frames := 1, cells := 0, slots := 0, locals := 22 }) s m args below meth c H locs 0 0 (MQ below (rf_Q D h0 (some (.int r)) ρ') args s 0 0 (rf_A h0)) (F0 m 334 ls [])) ?_ _ _ hy hE _ _ _ G hl
  clear hE hy G hl h
  intro z o h hP H locs ls G hl
  obtain ⟨x4, ρ⟩ := z
  dsimp only at h G hl
  unfold lq_readConfig_232 at h
  refine lv_iload C.1 C.2.1 dX12_readConfig_232 (lv_at hl 3 rfl) ?_
  refine lv_iload_n C.1 C.2.1 dX12_readConfig_234 rfl (lv_at hl 2 rfl) ?_
  refine lv_icmp_ge (tgt := 334) C.1 C.2.1 dX12_readConfig_235 (by decide) (fun hc => ?_) (fun hc => ?_)
  · rw [if_pos hc] at h
    cases h
    exact hP _ _ _ G (lv_sub hl [0, 1, 2, 3] rfl)
  · rw [if_neg hc] at h
    refine lv_aload_n C.1 C.2.1 dX12_readConfig_238 rfl (lv_at hl 0 rfl) ?_
    refine gf_116 C G dX12_readConfig_239 ?_
    refine lv_if_ne (tgt := 334) C.1 C.2.1 dX12_readConfig_242 (by decide) (fun hc => ?_) (fun hc => ?_)
    · rw [if_neg hc] at h
      cases h
      exact hP _ _ _ G (lv_sub hl [0, 1, 2, 3] rfl)
    · rw [if_pos hc] at h
      refine lv_aload_n C.1 C.2.1 dX12_readConfig_245 rfl (lv_at hl 0 rfl) ?_
      refine lv_iconst (v := (0:Int32)) C.1 C.2.1 dX12_readConfig_246 (by decide) ?_
      refine lv_iload_n C.1 C.2.1 dX12_readConfig_247 rfl (lv_at hl 1 rfl) ?_
      refine lv_iconst (v := (1:Int32)) C.1 C.2.1 dX12_readConfig_248 (by decide) ?_
      refine lv_isub C.1 C.2.1 dX12_readConfig_249 ?_
      obtain ⟨r_22, ρ_21, hq, h⟩ := bd2_some h
      refine rf_callV (rest := []) C G cw_config [.int (0:Int32), .int (x1 - (1:Int32))] _ (kq_config l D h0 hq) (Nat.le_of_ble_eq_true rfl) (Nat.le_of_ble_eq_true rfl) rfl rfl hl.1 (Nat.le_of_ble_eq_true rfl) (Nat.zero_le _) (Nat.zero_le _) dX12_readConfig_250 (fun H locs G => ?_)
      refine W.eq (g2 := F0 m 253 ls [.int r_22]) rfl ?_
      refine lv_istore (lv' := [(5, .int r_22), (0, .ref h0), (1, .int x1), (3, .int x3), (4, .int x4)]) C.1 C.2.1 dX12_readConfig_253 hl (by decide) rfl (fun ls hl => ?_)
      refine lv_aload_n C.1 C.2.1 dX12_readConfig_255 rfl (lv_at hl 1 rfl) ?_
      refine lv_iconst (v := (0:Int32)) C.1 C.2.1 dX12_readConfig_256 (by decide) ?_
      refine lv_iload_n C.1 C.2.1 dX12_readConfig_257 rfl (lv_at hl 2 rfl) ?_
      refine lv_iconst (v := (1:Int32)) C.1 C.2.1 dX12_readConfig_258 (by decide) ?_
      refine lv_isub C.1 C.2.1 dX12_readConfig_259 ?_
      obtain ⟨r_24, ρ_23, hq, h⟩ := bd2_some h
      refine rf_callV (rest := []) C G cw_config [.int (0:Int32), .int (x1 - (1:Int32))] _ (kq_config l D h0 hq) (Nat.le_of_ble_eq_true rfl) (Nat.le_of_ble_eq_true rfl) rfl rfl hl.1 (Nat.le_of_ble_eq_true rfl) (Nat.zero_le _) (Nat.zero_le _) dX12_readConfig_260 (fun H locs G => ?_)
      refine W.eq (g2 := F0 m 263 ls [.int r_24]) rfl ?_
      refine lv_istore (lv' := [(6, .int r_24), (5, .int r_22), (0, .ref h0), (1, .int x1), (3, .int x3), (4, .int x4)]) C.1 C.2.1 dX12_readConfig_263 hl (by decide) rfl (fun ls hl => ?_)
      refine lv_aload_n C.1 C.2.1 dX12_readConfig_265 rfl (lv_at hl 2 rfl) ?_
      refine lv_iload C.1 C.2.1 dX12_readConfig_266 (lv_at hl 0 rfl) ?_
      refine lv_iload C.1 C.2.1 dX12_readConfig_268 (lv_at hl 1 rfl) ?_
      refine lv_icmp_ne (tgt := 277) C.1 C.2.1 dX12_readConfig_270 (by decide) (fun hc => ?_) (fun hc => ?_)
      · rw [if_neg hc] at h
        refine lv_iconst (v := (0:Int32)) C.1 C.2.1 dX12_readConfig_277 (by decide) ?_
        exact wq_readConfig_278i232 C h hP G (lv_sub hl [2, 3, 4, 5, 1, 0] rfl)
      · rw [if_pos hc] at h
        refine lv_iconst (v := (1:Int32)) C.1 C.2.1 dX12_readConfig_273 (by decide) ?_
        refine lv_goto (tgt := 278) C.1 C.2.1 dX12_readConfig_274 (by decide) ?_
        exact wq_readConfig_278i232 C h hP G (lv_sub hl [2, 3, 4, 5, 1, 0] rfl)
noncomputable def bq_readConfig_221 (x1 : Int32) (ρ : rf_S) : Option (Int32 × rf_S) := bd2 (fq_config (0:Int32) (16:Int32) ρ) (fun r_20 ρ_19 => bq_readConfig_232 x1 r_20 (0:Int32) ρ_19)
set_option maxHeartbeats 4000000 in
theorem wq_readConfig_221 (C : rf_C D p s m args meth c cX12_readConfig 8 (some .boolean)) {r : Int32} {x1 : Int32} {ρ ρ' : rf_S} {H : Heap} {locs : List Loc} {ls : Array Slot} (h : bq_readConfig_221 x1 ρ = some (r, ρ')) (G : rf_G D h0 s ρ H locs) (hl : lv_has ls 8 [(0, .ref h0), (1, .int x1)]) : W p l e ({ frames := 1, cells := 0, slots := 0, locals := 22 }) s m args below meth c H locs 0 0 (MQ below (rf_Q D h0 (some (.int r)) ρ') args s 0 0 (rf_A h0)) (F0 m 221 ls []) := by
  unfold bq_readConfig_221 at h
  refine lv_aload_n C.1 C.2.1 dX12_readConfig_221 rfl (lv_at hl 0 rfl) ?_
  refine lv_iconst (v := (0:Int32)) C.1 C.2.1 dX12_readConfig_222 (by decide) ?_
  refine lv_bipush (v := (16:Int32)) C.1 C.2.1 dX12_readConfig_223 (by decide) ?_
  obtain ⟨r_20, ρ_19, hq, h⟩ := bd2_some h
  refine rf_callV (rest := []) C G cw_config [.int (0:Int32), .int (16:Int32)] _ (kq_config l D h0 hq) (Nat.le_of_ble_eq_true rfl) (Nat.le_of_ble_eq_true rfl) rfl rfl hl.1 (Nat.le_of_ble_eq_true rfl) (Nat.zero_le _) (Nat.zero_le _) dX12_readConfig_225 (fun H locs G => ?_)
  refine W.eq (g2 := F0 m 228 ls [.int r_20]) rfl ?_
  refine lv_istore_n (lv' := [(3, .int r_20), (0, .ref h0), (1, .int x1)]) C.1 C.2.1 dX12_readConfig_228 rfl hl (by decide) rfl (fun ls hl => ?_)
  refine lv_iconst (v := (0:Int32)) C.1 C.2.1 dX12_readConfig_229 (by decide) ?_
  refine lv_istore (lv' := [(4, .int (0:Int32)), (3, .int r_20), (0, .ref h0), (1, .int x1)]) C.1 C.2.1 dX12_readConfig_230 hl (by decide) rfl (fun ls hl => ?_)
  exact wq_readConfig_232 C h G (lv_sub hl [2, 3, 1, 0] rfl)
noncomputable def eq_readConfig_22 (x1 : Int32) (x2 : Int32) (x3 : Int32) (ρ : rf_S) : Option (Int32 × rf_S) := bq_readConfig_221 x1 ρ
noncomputable def bq_readConfig_22 (x1 : Int32) (x2 : Int32) (x3 : Int32) (ρ : rf_S) : Option (Int32 × rf_S) := (lp (fun z : (Int32 × Int32 × rf_S) => lq_readConfig_22 x1 z.1 z.2.1 z.2.2) (x2, x3, ρ)).bind (fun z => eq_readConfig_22 x1 z.1 z.2.1 z.2.2)
set_option maxHeartbeats 4000000 in
theorem wq_readConfig_22 (C : rf_C D p s m args meth c cX12_readConfig 8 (some .boolean)) {r : Int32} {x1 : Int32} {x2 : Int32} {x3 : Int32} {ρ ρ' : rf_S} {H : Heap} {locs : List Loc} {ls : Array Slot} (h : bq_readConfig_22 x1 x2 x3 ρ = some (r, ρ')) (G : rf_G D h0 s ρ H locs) (hl : lv_has ls 8 [(0, .ref h0), (1, .int x1), (2, .int x2), (3, .int x3)]) : W p l e ({ frames := 1, cells := 0, slots := 0, locals := 22 }) s m args below meth c H locs 0 0 (MQ below (rf_Q D h0 (some (.int r)) ρ') args s 0 0 (rf_A h0)) (F0 m 22 ls []) := by
  unfold bq_readConfig_22 at h
  obtain ⟨y, hy, h⟩ := bd_some h
  have hE : (fun z : (Int32 × Int32 × rf_S) => ∀ (H : Heap) (locs : List Loc) (ls : Array Slot), rf_G D h0 s z.2.2 H locs → lv_has ls 8 [(0, .ref h0), (1, .int x1), (2, .int z.1), (3, .int z.2.1)] → W p l e ({ frames := 1, cells := 0, slots := 0, locals := 22 }) s m args below meth c H locs 0 0 (MQ below (rf_Q D h0 (some (.int r)) ρ') args s 0 0 (rf_A h0)) (F0 m 221 ls [])) y := by
    intro H locs ls G hl
    obtain ⟨x2, x3, ρ⟩ := y
    dsimp only at h G hl
    unfold eq_readConfig_22 at h
    exact wq_readConfig_221 C h G (lv_sub hl [0, 1] rfl)
  refine lp_recE (fun z : (Int32 × Int32 × rf_S) => ∀ (H : Heap) (locs : List Loc) (ls : Array Slot), rf_G D h0 s z.2.2 H locs → lv_has ls 8 [(0, .ref h0), (1, .int x1), (2, .int z.1), (3, .int z.2.1)] → W p l e ({ frames := 1, cells := 0, slots := 0, locals := 22 }) s m args below meth c H locs 0 0 (MQ below (rf_Q D h0 (some (.int r)) ρ') args s 0 0 (rf_A h0)) (F0 m 22 ls [])) (fun z : (Int32 × Int32 × rf_S) => ∀ (H : Heap) (locs : List Loc) (ls : Array Slot), rf_G D h0 s z.2.2 H locs → lv_has ls 8 [(0, .ref h0), (1, .int x1), (2, .int z.1), (3, .int z.2.1)] → W p l e ({ frames := 1, cells := 0, slots := 0, locals := 22 }) s m args below meth c H locs 0 0 (MQ below (rf_Q D h0 (some (.int r)) ρ') args s 0 0 (rf_A h0)) (F0 m 221 ls [])) ?_ _ _ hy hE _ _ _ G hl
  clear hE hy G hl h
  intro z o h hP H locs ls G hl
  obtain ⟨x2, x3, ρ⟩ := z
  dsimp only at h G hl
  unfold lq_readConfig_22 at h
  refine lv_iload_n C.1 C.2.1 dX12_readConfig_22 rfl (lv_at hl 3 rfl) ?_
  refine lv_iload_n C.1 C.2.1 dX12_readConfig_23 rfl (lv_at hl 1 rfl) ?_
  refine lv_icmp_ge (tgt := 221) C.1 C.2.1 dX12_readConfig_24 (by decide) (fun hc => ?_) (fun hc => ?_)
  · rw [if_pos hc] at h
    cases h
    exact hP _ _ _ G (lv_sub hl [0, 1, 2, 3] rfl)
  · rw [if_neg hc] at h
    refine lv_aload_n C.1 C.2.1 dX12_readConfig_27 rfl (lv_at hl 0 rfl) ?_
    refine gf_116 C G dX12_readConfig_28 ?_
    refine lv_if_ne (tgt := 221) C.1 C.2.1 dX12_readConfig_31 (by decide) (fun hc => ?_) (fun hc => ?_)
    · rw [if_neg hc] at h
      cases h
      exact hP _ _ _ G (lv_sub hl [0, 1, 2, 3] rfl)
    · rw [if_pos hc] at h
      refine lv_aload_n C.1 C.2.1 dX12_readConfig_34 rfl (lv_at hl 0 rfl) ?_
      refine lv_iconst (v := (0:Int32)) C.1 C.2.1 dX12_readConfig_35 (by decide) ?_
      refine lv_sipush (v := (8176:Int32)) C.1 C.2.1 dX12_readConfig_36 (by decide) ?_
      obtain ⟨r_6, ρ_5, hq, h⟩ := bd2_some h
      refine rf_callV (rest := []) C G cw_config [.int (0:Int32), .int (8176:Int32)] _ (kq_config l D h0 hq) (Nat.le_of_ble_eq_true rfl) (Nat.le_of_ble_eq_true rfl) rfl rfl hl.1 (Nat.le_of_ble_eq_true rfl) (Nat.zero_le _) (Nat.zero_le _) dX12_readConfig_39 (fun H locs G => ?_)
      refine W.eq (g2 := F0 m 42 ls [.int r_6]) rfl ?_
      refine lv_istore (lv' := [(4, .int r_6), (0, .ref h0), (1, .int x1), (2, .int x2), (3, .int x3)]) C.1 C.2.1 dX12_readConfig_42 hl (by decide) rfl (fun ls hl => ?_)
      refine lv_aload_n C.1 C.2.1 dX12_readConfig_44 rfl (lv_at hl 1 rfl) ?_
      refine lv_bipush (v := (16:Int32)) C.1 C.2.1 dX12_readConfig_45 (by decide) ?_
      refine lv_sipush (v := (2048:Int32)) C.1 C.2.1 dX12_readConfig_47 (by decide) ?_
      obtain ⟨r_8, ρ_7, hq, h⟩ := bd2_some h
      refine rf_callV (rest := []) C G cw_config [.int (16:Int32), .int (2048:Int32)] _ (kq_config l D h0 hq) (Nat.le_of_ble_eq_true rfl) (Nat.le_of_ble_eq_true rfl) rfl rfl hl.1 (Nat.le_of_ble_eq_true rfl) (Nat.zero_le _) (Nat.zero_le _) dX12_readConfig_50 (fun H locs G => ?_)
      refine W.eq (g2 := F0 m 53 ls [.int r_8]) rfl ?_
      refine lv_istore (lv' := [(5, .int r_8), (4, .int r_6), (0, .ref h0), (1, .int x1), (2, .int x2), (3, .int x3)]) C.1 C.2.1 dX12_readConfig_53 hl (by decide) rfl (fun ls hl => ?_)
      refine lv_iload C.1 C.2.1 dX12_readConfig_55 (lv_at hl 1 rfl) ?_
      refine lv_iload C.1 C.2.1 dX12_readConfig_57 (lv_at hl 0 rfl) ?_
      refine lv_iadd C.1 C.2.1 dX12_readConfig_59 ?_
      refine lv_sipush (v := (8192:Int32)) C.1 C.2.1 dX12_readConfig_60 (by decide) ?_
      refine lv_icmp_le (tgt := 70) C.1 C.2.1 dX12_readConfig_63 (by decide) (fun hc => ?_) (fun hc => ?_)
      · rw [if_pos hc] at h
        refine lv_iconst (v := (0:Int32)) C.1 C.2.1 dX12_readConfig_70 (by decide) ?_
        exact wq_readConfig_71i22 C h hP G (lv_sub hl [2, 3, 4, 5, 1, 0] rfl)
      · rw [if_neg hc] at h
        refine lv_iconst (v := (1:Int32)) C.1 C.2.1 dX12_readConfig_66 (by decide) ?_
        refine lv_goto (tgt := 71) C.1 C.2.1 dX12_readConfig_67 (by decide) ?_
        exact wq_readConfig_71i22 C h hP G (lv_sub hl [2, 3, 4, 5, 1, 0] rfl)
noncomputable def bq_readConfig_0  (ρ : rf_S) : Option (Int32 × rf_S) := vl (rf_w ρ 0 115 (0:Int32)) (fun ρ_1 => vl (rf_w ρ_1 0 116 (0:Int32)) (fun ρ_2 => bd2 (fq_config (1:Int32) (8:Int32) ρ_2) (fun r_4 ρ_3 => bq_readConfig_22 r_4 (0:Int32) (0:Int32) ρ_3)))
set_option maxHeartbeats 4000000 in
theorem wq_readConfig_0 (C : rf_C D p s m args meth c cX12_readConfig 8 (some .boolean)) {r : Int32} {ρ ρ' : rf_S} {H : Heap} {locs : List Loc} {ls : Array Slot} (h : bq_readConfig_0 ρ = some (r, ρ')) (G : rf_G D h0 s ρ H locs) (hl : lv_has ls 8 [(0, .ref h0)]) : W p l e ({ frames := 1, cells := 0, slots := 0, locals := 22 }) s m args below meth c H locs 0 0 (MQ below (rf_Q D h0 (some (.int r)) ρ') args s 0 0 (rf_A h0)) (F0 m 0 ls []) := by
  unfold bq_readConfig_0 at h
  refine lv_aload_n C.1 C.2.1 dX12_readConfig_0 rfl (lv_at hl 0 rfl) ?_
  refine lv_iconst (v := (0:Int32)) C.1 C.2.1 dX12_readConfig_1 (by decide) ?_
  refine pf_115 C G dX12_readConfig_2 (fun H locs G => ?_)
  refine rf_nm G h (fun ρ_1 G h => ?_)
  refine lv_aload_n C.1 C.2.1 dX12_readConfig_5 rfl (lv_at hl 0 rfl) ?_
  refine lv_iconst (v := (0:Int32)) C.1 C.2.1 dX12_readConfig_6 (by decide) ?_
  refine pf_116 C G rfl rfl dX12_readConfig_7 (fun H locs G => ?_)
  refine rf_nm G h (fun ρ_2 G h => ?_)
  refine lv_aload_n C.1 C.2.1 dX12_readConfig_10 rfl (lv_at hl 0 rfl) ?_
  refine lv_iconst (v := (1:Int32)) C.1 C.2.1 dX12_readConfig_11 (by decide) ?_
  refine lv_bipush (v := (8:Int32)) C.1 C.2.1 dX12_readConfig_12 (by decide) ?_
  obtain ⟨r_4, ρ_3, hq, h⟩ := bd2_some h
  refine rf_callV (rest := []) C G cw_config [.int (1:Int32), .int (8:Int32)] _ (kq_config l D h0 hq) (Nat.le_of_ble_eq_true rfl) (Nat.le_of_ble_eq_true rfl) rfl rfl hl.1 (Nat.le_of_ble_eq_true rfl) (Nat.zero_le _) (Nat.zero_le _) dX12_readConfig_14 (fun H locs G => ?_)
  refine W.eq (g2 := F0 m 17 ls [.int r_4]) rfl ?_
  refine lv_istore_n (lv' := [(1, .int r_4), (0, .ref h0)]) C.1 C.2.1 dX12_readConfig_17 rfl hl (by decide) rfl (fun ls hl => ?_)
  refine lv_iconst (v := (0:Int32)) C.1 C.2.1 dX12_readConfig_18 (by decide) ?_
  refine lv_istore_n (lv' := [(2, .int (0:Int32)), (1, .int r_4), (0, .ref h0)]) C.1 C.2.1 dX12_readConfig_19 rfl hl (by decide) rfl (fun ls hl => ?_)
  refine lv_iconst (v := (0:Int32)) C.1 C.2.1 dX12_readConfig_20 (by decide) ?_
  refine lv_istore_n (lv' := [(3, .int (0:Int32)), (2, .int (0:Int32)), (1, .int r_4), (0, .ref h0)]) C.1 C.2.1 dX12_readConfig_21 rfl hl (by decide) rfl (fun ls hl => ?_)
  exact wq_readConfig_22 C h G (lv_sub hl [3, 2, 1, 0] rfl)
noncomputable def fq_readConfig  (ρ : rf_S) : Option (Int32 × rf_S) := bq_readConfig_0 ρ
theorem kq_readConfig (l : Launch) (D : rf_D) (h0 : Nat) {r : Int32} {ρ ρ' : rf_S} (h : fq_readConfig ρ = some (r, ρ')) : rf_Met l D h0 yX12_readConfig cX12_readConfig 8 (some .boolean) 1 22 [.ref h0] ρ (some (.int r)) ρ' :=
  rf_of rfl cc_readConfig (Nat.le_of_ble_eq_true rfl) (fun p e s m args below meth c ls C G hl => wq_readConfig_0 C h G hl)
end RQ6
