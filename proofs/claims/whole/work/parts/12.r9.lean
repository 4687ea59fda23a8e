section RQ8
variable {p : Program} {l : Launch} {e : Env} {s : State} {m : MethodId} {args : Array Value} {below : List Frame} {meth : Method} {c : Code} {D : rf_D} {h0 : Nat}
abbrev cX12_begin : ByteArray := prog_14_method_60_code
def yX12_begin : MethodName := ⟨RX12, "begin", "()V"⟩
theorem dX12_begin_0 : decode cX12_begin 0 = .ok (.aload_n 0, 1) := by decide +kernel
theorem dX12_begin_1 : decode cX12_begin 1 = .ok (.getfield 167, 3) := by decide +kernel
theorem dX12_begin_4 : decode cX12_begin 4 = .ok (.aload_n 0, 1) := by decide +kernel
theorem dX12_begin_5 : decode cX12_begin 5 = .ok (.getfield 525, 3) := by decide +kernel
theorem dX12_begin_8 : decode cX12_begin 8 = .ok (.iconst 0, 1) := by decide +kernel
theorem dX12_begin_9 : decode cX12_begin 9 = .ok (.iastore, 1) := by decide +kernel
theorem dX12_begin_10 : decode cX12_begin 10 = .ok (.aload_n 0, 1) := by decide +kernel
theorem dX12_begin_11 : decode cX12_begin 11 = .ok (.getfield 170, 3) := by decide +kernel
theorem dX12_begin_14 : decode cX12_begin 14 = .ok (.aload_n 0, 1) := by decide +kernel
theorem dX12_begin_15 : decode cX12_begin 15 = .ok (.getfield 525, 3) := by decide +kernel
theorem dX12_begin_18 : decode cX12_begin 18 = .ok (.iconst 0, 1) := by decide +kernel
theorem dX12_begin_19 : decode cX12_begin 19 = .ok (.iastore, 1) := by decide +kernel
theorem dX12_begin_20 : decode cX12_begin 20 = .ok (.aload_n 0, 1) := by decide +kernel
theorem dX12_begin_21 : decode cX12_begin 21 = .ok (.getfield 173, 3) := by decide +kernel
theorem dX12_begin_24 : decode cX12_begin 24 = .ok (.aload_n 0, 1) := by decide +kernel
theorem dX12_begin_25 : decode cX12_begin 25 = .ok (.getfield 525, 3) := by decide +kernel
theorem dX12_begin_28 : decode cX12_begin 28 = .ok (.iconst 0, 1) := by decide +kernel
theorem dX12_begin_29 : decode cX12_begin 29 = .ok (.iastore, 1) := by decide +kernel
theorem dX12_begin_30 : decode cX12_begin 30 = .ok (.aload_n 0, 1) := by decide +kernel
theorem dX12_begin_31 : decode cX12_begin 31 = .ok (.getfield 176, 3) := by decide +kernel
theorem dX12_begin_34 : decode cX12_begin 34 = .ok (.aload_n 0, 1) := by decide +kernel
theorem dX12_begin_35 : decode cX12_begin 35 = .ok (.getfield 525, 3) := by decide +kernel
theorem dX12_begin_38 : decode cX12_begin 38 = .ok (.iconst 0, 1) := by decide +kernel
theorem dX12_begin_39 : decode cX12_begin 39 = .ok (.bastore, 1) := by decide +kernel
theorem dX12_begin_40 : decode cX12_begin 40 = .ok (.iconst 0, 1) := by decide +kernel
theorem dX12_begin_41 : decode cX12_begin 41 = .ok (.istore_n 1, 1) := by decide +kernel
theorem dX12_begin_42 : decode cX12_begin 42 = .ok (.iload_n 1, 1) := by decide +kernel
theorem dX12_begin_43 : decode cX12_begin 43 = .ok (.sipush 8192, 3) := by decide +kernel
theorem dX12_begin_46 : decode cX12_begin 46 = .ok (.if_icmp .ge 25, 3) := by decide +kernel
theorem dX12_begin_49 : decode cX12_begin 49 = .ok (.aload_n 0, 1) := by decide +kernel
theorem dX12_begin_50 : decode cX12_begin 50 = .ok (.getfield 179, 3) := by decide +kernel
theorem dX12_begin_53 : decode cX12_begin 53 = .ok (.sipush 8192, 3) := by decide +kernel
theorem dX12_begin_56 : decode cX12_begin 56 = .ok (.aload_n 0, 1) := by decide +kernel
theorem dX12_begin_57 : decode cX12_begin 57 = .ok (.getfield 525, 3) := by decide +kernel
theorem dX12_begin_60 : decode cX12_begin 60 = .ok (.imul, 1) := by decide +kernel
theorem dX12_begin_61 : decode cX12_begin 61 = .ok (.iload_n 1, 1) := by decide +kernel
theorem dX12_begin_62 : decode cX12_begin 62 = .ok (.iadd, 1) := by decide +kernel
theorem dX12_begin_63 : decode cX12_begin 63 = .ok (.iconst 0, 1) := by decide +kernel
theorem dX12_begin_64 : decode cX12_begin 64 = .ok (.iastore, 1) := by decide +kernel
theorem dX12_begin_65 : decode cX12_begin 65 = .ok (.iinc 1 1, 3) := by decide +kernel
theorem dX12_begin_68 : decode cX12_begin 68 = .ok (.goto (-26), 3) := by decide +kernel
theorem dX12_begin_71 : decode cX12_begin 71 = .ok (.iconst 0, 1) := by decide +kernel
theorem dX12_begin_72 : decode cX12_begin 72 = .ok (.istore_n 1, 1) := by decide +kernel
theorem dX12_begin_73 : decode cX12_begin 73 = .ok (.iload_n 1, 1) := by decide +kernel
theorem dX12_begin_74 : decode cX12_begin 74 = .ok (.bipush 8, 2) := by decide +kernel
theorem dX12_begin_76 : decode cX12_begin 76 = .ok (.if_icmp .ge 129, 3) := by decide +kernel
theorem dX12_begin_79 : decode cX12_begin 79 = .ok (.bipush 8, 2) := by decide +kernel
theorem dX12_begin_81 : decode cX12_begin 81 = .ok (.aload_n 0, 1) := by decide +kernel
theorem dX12_begin_82 : decode cX12_begin 82 = .ok (.getfield 525, 3) := by decide +kernel
theorem dX12_begin_85 : decode cX12_begin 85 = .ok (.imul, 1) := by decide +kernel
theorem dX12_begin_86 : decode cX12_begin 86 = .ok (.iload_n 1, 1) := by decide +kernel
theorem dX12_begin_87 : decode cX12_begin 87 = .ok (.iadd, 1) := by decide +kernel
theorem dX12_begin_88 : decode cX12_begin 88 = .ok (.istore_n 2, 1) := by decide +kernel
theorem dX12_begin_89 : decode cX12_begin 89 = .ok (.iconst 0, 1) := by decide +kernel
theorem dX12_begin_90 : decode cX12_begin 90 = .ok (.istore_n 3, 1) := by decide +kernel
theorem dX12_begin_91 : decode cX12_begin 91 = .ok (.iload_n 3, 1) := by decide +kernel
theorem dX12_begin_92 : decode cX12_begin 92 = .ok (.bipush 16, 2) := by decide +kernel
theorem dX12_begin_94 : decode cX12_begin 94 = .ok (.if_icmp .ge 21, 3) := by decide +kernel
theorem dX12_begin_97 : decode cX12_begin 97 = .ok (.aload_n 0, 1) := by decide +kernel
theorem dX12_begin_98 : decode cX12_begin 98 = .ok (.getfield 182, 3) := by decide +kernel
theorem dX12_begin_101 : decode cX12_begin 101 = .ok (.bipush 16, 2) := by decide +kernel
theorem dX12_begin_103 : decode cX12_begin 103 = .ok (.iload_n 2, 1) := by decide +kernel
theorem dX12_begin_104 : decode cX12_begin 104 = .ok (.imul, 1) := by decide +kernel
theorem dX12_begin_105 : decode cX12_begin 105 = .ok (.iload_n 3, 1) := by decide +kernel
theorem dX12_begin_106 : decode cX12_begin 106 = .ok (.iadd, 1) := by decide +kernel
theorem dX12_begin_107 : decode cX12_begin 107 = .ok (.iconst 0, 1) := by decide +kernel
theorem dX12_begin_108 : decode cX12_begin 108 = .ok (.iastore, 1) := by decide +kernel
theorem dX12_begin_109 : decode cX12_begin 109 = .ok (.iinc 3 1, 3) := by decide +kernel
theorem dX12_begin_112 : decode cX12_begin 112 = .ok (.goto (-21), 3) := by decide +kernel
theorem dX12_begin_115 : decode cX12_begin 115 = .ok (.aload_n 0, 1) := by decide +kernel
theorem dX12_begin_116 : decode cX12_begin 116 = .ok (.getfield 185, 3) := by decide +kernel
theorem dX12_begin_119 : decode cX12_begin 119 = .ok (.iload_n 2, 1) := by decide +kernel
theorem dX12_begin_120 : decode cX12_begin 120 = .ok (.iconst 0, 1) := by decide +kernel
theorem dX12_begin_121 : decode cX12_begin 121 = .ok (.iastore, 1) := by decide +kernel
theorem dX12_begin_122 : decode cX12_begin 122 = .ok (.aload_n 0, 1) := by decide +kernel
theorem dX12_begin_123 : decode cX12_begin 123 = .ok (.getfield 188, 3) := by decide +kernel
theorem dX12_begin_126 : decode cX12_begin 126 = .ok (.iload_n 2, 1) := by decide +kernel
theorem dX12_begin_127 : decode cX12_begin 127 = .ok (.iconst 0, 1) := by decide +kernel
theorem dX12_begin_128 : decode cX12_begin 128 = .ok (.bastore, 1) := by decide +kernel
theorem dX12_begin_129 : decode cX12_begin 129 = .ok (.aload_n 0, 1) := by decide +kernel
theorem dX12_begin_130 : decode cX12_begin 130 = .ok (.getfield 191, 3) := by decide +kernel
theorem dX12_begin_133 : decode cX12_begin 133 = .ok (.iload_n 2, 1) := by decide +kernel
theorem dX12_begin_134 : decode cX12_begin 134 = .ok (.iconst 0, 1) := by decide +kernel
theorem dX12_begin_135 : decode cX12_begin 135 = .ok (.iastore, 1) := by decide +kernel
theorem dX12_begin_136 : decode cX12_begin 136 = .ok (.aload_n 0, 1) := by decide +kernel
theorem dX12_begin_137 : decode cX12_begin 137 = .ok (.getfield 194, 3) := by decide +kernel
theorem dX12_begin_140 : decode cX12_begin 140 = .ok (.iload_n 2, 1) := by decide +kernel
theorem dX12_begin_141 : decode cX12_begin 141 = .ok (.iconst 0, 1) := by decide +kernel
theorem dX12_begin_142 : decode cX12_begin 142 = .ok (.iastore, 1) := by decide +kernel
theorem dX12_begin_143 : decode cX12_begin 143 = .ok (.aload_n 0, 1) := by decide +kernel
theorem dX12_begin_144 : decode cX12_begin 144 = .ok (.getfield 197, 3) := by decide +kernel
theorem dX12_begin_147 : decode cX12_begin 147 = .ok (.iload_n 2, 1) := by decide +kernel
theorem dX12_begin_148 : decode cX12_begin 148 = .ok (.iconst 0, 1) := by decide +kernel
theorem dX12_begin_149 : decode cX12_begin 149 = .ok (.iastore, 1) := by decide +kernel
theorem dX12_begin_150 : decode cX12_begin 150 = .ok (.aload_n 0, 1) := by decide +kernel
theorem dX12_begin_151 : decode cX12_begin 151 = .ok (.getfield 200, 3) := by decide +kernel
theorem dX12_begin_154 : decode cX12_begin 154 = .ok (.iload_n 2, 1) := by decide +kernel
theorem dX12_begin_155 : decode cX12_begin 155 = .ok (.iconst 0, 1) := by decide +kernel
theorem dX12_begin_156 : decode cX12_begin 156 = .ok (.bastore, 1) := by decide +kernel
theorem dX12_begin_157 : decode cX12_begin 157 = .ok (.aload_n 0, 1) := by decide +kernel
theorem dX12_begin_158 : decode cX12_begin 158 = .ok (.getfield 206, 3) := by decide +kernel
theorem dX12_begin_161 : decode cX12_begin 161 = .ok (.iload_n 2, 1) := by decide +kernel
theorem dX12_begin_162 : decode cX12_begin 162 = .ok (.iconst 0, 1) := by decide +kernel
theorem dX12_begin_163 : decode cX12_begin 163 = .ok (.iastore, 1) := by decide +kernel
theorem dX12_begin_164 : decode cX12_begin 164 = .ok (.aload_n 0, 1) := by decide +kernel
theorem dX12_begin_165 : decode cX12_begin 165 = .ok (.getfield 215, 3) := by decide +kernel
theorem dX12_begin_168 : decode cX12_begin 168 = .ok (.iload_n 2, 1) := by decide +kernel
theorem dX12_begin_169 : decode cX12_begin 169 = .ok (.iconst 0, 1) := by decide +kernel
theorem dX12_begin_170 : decode cX12_begin 170 = .ok (.iastore, 1) := by decide +kernel
theorem dX12_begin_171 : decode cX12_begin 171 = .ok (.aload_n 0, 1) := by decide +kernel
theorem dX12_begin_172 : decode cX12_begin 172 = .ok (.getfield 221, 3) := by decide +kernel
theorem dX12_begin_175 : decode cX12_begin 175 = .ok (.iload_n 2, 1) := by decide +kernel
theorem dX12_begin_176 : decode cX12_begin 176 = .ok (.iconst 0, 1) := by decide +kernel
theorem dX12_begin_177 : decode cX12_begin 177 = .ok (.iastore, 1) := by decide +kernel
theorem dX12_begin_178 : decode cX12_begin 178 = .ok (.aload_n 0, 1) := by decide +kernel
theorem dX12_begin_179 : decode cX12_begin 179 = .ok (.getfield 227, 3) := by decide +kernel
theorem dX12_begin_182 : decode cX12_begin 182 = .ok (.iload_n 2, 1) := by decide +kernel
theorem dX12_begin_183 : decode cX12_begin 183 = .ok (.iconst 0, 1) := by decide +kernel
theorem dX12_begin_184 : decode cX12_begin 184 = .ok (.iastore, 1) := by decide +kernel
theorem dX12_begin_185 : decode cX12_begin 185 = .ok (.aload_n 0, 1) := by decide +kernel
theorem dX12_begin_186 : decode cX12_begin 186 = .ok (.getfield 230, 3) := by decide +kernel
theorem dX12_begin_189 : decode cX12_begin 189 = .ok (.iload_n 2, 1) := by decide +kernel
theorem dX12_begin_190 : decode cX12_begin 190 = .ok (.iconst 0, 1) := by decide +kernel
theorem dX12_begin_191 : decode cX12_begin 191 = .ok (.iastore, 1) := by decide +kernel
theorem dX12_begin_192 : decode cX12_begin 192 = .ok (.aload_n 0, 1) := by decide +kernel
theorem dX12_begin_193 : decode cX12_begin 193 = .ok (.getfield 233, 3) := by decide +kernel
theorem dX12_begin_196 : decode cX12_begin 196 = .ok (.iload_n 2, 1) := by decide +kernel
theorem dX12_begin_197 : decode cX12_begin 197 = .ok (.iconst 0, 1) := by decide +kernel
theorem dX12_begin_198 : decode cX12_begin 198 = .ok (.iastore, 1) := by decide +kernel
theorem dX12_begin_199 : decode cX12_begin 199 = .ok (.iinc 1 1, 3) := by decide +kernel
theorem dX12_begin_202 : decode cX12_begin 202 = .ok (.goto (-129), 3) := by decide +kernel
theorem dX12_begin_205 : decode cX12_begin 205 = .ok (.iconst 0, 1) := by decide +kernel
theorem dX12_begin_206 : decode cX12_begin 206 = .ok (.istore_n 1, 1) := by decide +kernel
theorem dX12_begin_207 : decode cX12_begin 207 = .ok (.iload_n 1, 1) := by decide +kernel
theorem dX12_begin_208 : decode cX12_begin 208 = .ok (.aload_n 0, 1) := by decide +kernel
theorem dX12_begin_209 : decode cX12_begin 209 = .ok (.getfield 513, 3) := by decide +kernel
theorem dX12_begin_212 : decode cX12_begin 212 = .ok (.if_icmp .ge 72, 3) := by decide +kernel
theorem dX12_begin_215 : decode cX12_begin 215 = .ok (.iconst 0, 1) := by decide +kernel
theorem dX12_begin_216 : decode cX12_begin 216 = .ok (.istore_n 2, 1) := by decide +kernel
theorem dX12_begin_217 : decode cX12_begin 217 = .ok (.iload_n 2, 1) := by decide +kernel
theorem dX12_begin_218 : decode cX12_begin 218 = .ok (.aload_n 0, 1) := by decide +kernel
theorem dX12_begin_219 : decode cX12_begin 219 = .ok (.getfield 18, 3) := by decide +kernel
theorem dX12_begin_222 : decode cX12_begin 222 = .ok (.aload_n 0, 1) := by decide +kernel
theorem dX12_begin_223 : decode cX12_begin 223 = .ok (.getfield 137, 3) := by decide +kernel
theorem dX12_begin_226 : decode cX12_begin 226 = .ok (.iload_n 1, 1) := by decide +kernel
theorem dX12_begin_227 : decode cX12_begin 227 = .ok (.iaload, 1) := by decide +kernel
theorem dX12_begin_228 : decode cX12_begin 228 = .ok (.iaload, 1) := by decide +kernel
theorem dX12_begin_229 : decode cX12_begin 229 = .ok (.if_icmp .ge 49, 3) := by decide +kernel
theorem dX12_begin_232 : decode cX12_begin 232 = .ok (.aload_n 0, 1) := by decide +kernel
theorem dX12_begin_233 : decode cX12_begin 233 = .ok (.getfield 179, 3) := by decide +kernel
theorem dX12_begin_236 : decode cX12_begin 236 = .ok (.sipush 8192, 3) := by decide +kernel
theorem dX12_begin_239 : decode cX12_begin 239 = .ok (.aload_n 0, 1) := by decide +kernel
theorem dX12_begin_240 : decode cX12_begin 240 = .ok (.getfield 525, 3) := by decide +kernel
theorem dX12_begin_243 : decode cX12_begin 243 = .ok (.imul, 1) := by decide +kernel
theorem dX12_begin_244 : decode cX12_begin 244 = .ok (.aload_n 0, 1) := by decide +kernel
theorem dX12_begin_245 : decode cX12_begin 245 = .ok (.getfield 107, 3) := by decide +kernel
theorem dX12_begin_248 : decode cX12_begin 248 = .ok (.iload_n 1, 1) := by decide +kernel
theorem dX12_begin_249 : decode cX12_begin 249 = .ok (.iaload, 1) := by decide +kernel
theorem dX12_begin_250 : decode cX12_begin 250 = .ok (.iadd, 1) := by decide +kernel
theorem dX12_begin_251 : decode cX12_begin 251 = .ok (.iload_n 2, 1) := by decide +kernel
theorem dX12_begin_252 : decode cX12_begin 252 = .ok (.iadd, 1) := by decide +kernel
theorem dX12_begin_253 : decode cX12_begin 253 = .ok (.aload_n 0, 1) := by decide +kernel
theorem dX12_begin_254 : decode cX12_begin 254 = .ok (.getfield 55, 3) := by decide +kernel
theorem dX12_begin_257 : decode cX12_begin 257 = .ok (.aload_n 0, 1) := by decide +kernel
theorem dX12_begin_258 : decode cX12_begin 258 = .ok (.getfield 14, 3) := by decide +kernel
theorem dX12_begin_261 : decode cX12_begin 261 = .ok (.aload_n 0, 1) := by decide +kernel
theorem dX12_begin_262 : decode cX12_begin 262 = .ok (.getfield 137, 3) := by decide +kernel
theorem dX12_begin_265 : decode cX12_begin 265 = .ok (.iload_n 1, 1) := by decide +kernel
theorem dX12_begin_266 : decode cX12_begin 266 = .ok (.iaload, 1) := by decide +kernel
theorem dX12_begin_267 : decode cX12_begin 267 = .ok (.iaload, 1) := by decide +kernel
theorem dX12_begin_268 : decode cX12_begin 268 = .ok (.iload_n 2, 1) := by decide +kernel
theorem dX12_begin_269 : decode cX12_begin 269 = .ok (.iadd, 1) := by decide +kernel
theorem dX12_begin_270 : decode cX12_begin 270 = .ok (.iaload, 1) := by decide +kernel
theorem dX12_begin_271 : decode cX12_begin 271 = .ok (.iastore, 1) := by decide +kernel
theorem dX12_begin_272 : decode cX12_begin 272 = .ok (.iinc 2 1, 3) := by decide +kernel
theorem dX12_begin_275 : decode cX12_begin 275 = .ok (.goto (-58), 3) := by decide +kernel
theorem dX12_begin_278 : decode cX12_begin 278 = .ok (.iinc 1 1, 3) := by decide +kernel
theorem dX12_begin_281 : decode cX12_begin 281 = .ok (.goto (-74), 3) := by decide +kernel
theorem dX12_begin_284 : decode cX12_begin 284 = .ok (.bipush 16, 2) := by decide +kernel
theorem dX12_begin_286 : decode cX12_begin 286 = .ok (.aload_n 0, 1) := by decide +kernel
theorem dX12_begin_287 : decode cX12_begin 287 = .ok (.getfield 525, 3) := by decide +kernel
theorem dX12_begin_290 : decode cX12_begin 290 = .ok (.imul, 1) := by decide +kernel
theorem dX12_begin_291 : decode cX12_begin 291 = .ok (.istore_n 1, 1) := by decide +kernel
theorem dX12_begin_292 : decode cX12_begin 292 = .ok (.iload_n 1, 1) := by decide +kernel
theorem dX12_begin_293 : decode cX12_begin 293 = .ok (.bipush 16, 2) := by decide +kernel
theorem dX12_begin_295 : decode cX12_begin 295 = .ok (.aload_n 0, 1) := by decide +kernel
theorem dX12_begin_296 : decode cX12_begin 296 = .ok (.getfield 525, 3) := by decide +kernel
theorem dX12_begin_299 : decode cX12_begin 299 = .ok (.imul, 1) := by decide +kernel
theorem dX12_begin_300 : decode cX12_begin 300 = .ok (.bipush 16, 2) := by decide +kernel
theorem dX12_begin_302 : decode cX12_begin 302 = .ok (.iadd, 1) := by decide +kernel
theorem dX12_begin_303 : decode cX12_begin 303 = .ok (.if_icmp .ge 49, 3) := by decide +kernel
theorem dX12_begin_306 : decode cX12_begin 306 = .ok (.aload_n 0, 1) := by decide +kernel
theorem dX12_begin_307 : decode cX12_begin 307 = .ok (.getfield 239, 3) := by decide +kernel
theorem dX12_begin_310 : decode cX12_begin 310 = .ok (.iload_n 1, 1) := by decide +kernel
theorem dX12_begin_311 : decode cX12_begin 311 = .ok (.iconst 0, 1) := by decide +kernel
theorem dX12_begin_312 : decode cX12_begin 312 = .ok (.bastore, 1) := by decide +kernel
theorem dX12_begin_313 : decode cX12_begin 313 = .ok (.aload_n 0, 1) := by decide +kernel
theorem dX12_begin_314 : decode cX12_begin 314 = .ok (.getfield 242, 3) := by decide +kernel
theorem dX12_begin_317 : decode cX12_begin 317 = .ok (.iload_n 1, 1) := by decide +kernel
theorem dX12_begin_318 : decode cX12_begin 318 = .ok (.iconst (-1), 1) := by decide +kernel
theorem dX12_begin_319 : decode cX12_begin 319 = .ok (.iastore, 1) := by decide +kernel
theorem dX12_begin_320 : decode cX12_begin 320 = .ok (.iconst 0, 1) := by decide +kernel
theorem dX12_begin_321 : decode cX12_begin 321 = .ok (.istore_n 2, 1) := by decide +kernel
theorem dX12_begin_322 : decode cX12_begin 322 = .ok (.iload_n 2, 1) := by decide +kernel
theorem dX12_begin_323 : decode cX12_begin 323 = .ok (.bipush 16, 2) := by decide +kernel
theorem dX12_begin_325 : decode cX12_begin 325 = .ok (.if_icmp .ge 21, 3) := by decide +kernel
theorem dX12_begin_328 : decode cX12_begin 328 = .ok (.aload_n 0, 1) := by decide +kernel
theorem dX12_begin_329 : decode cX12_begin 329 = .ok (.getfield 236, 3) := by decide +kernel
theorem dX12_begin_332 : decode cX12_begin 332 = .ok (.bipush 16, 2) := by decide +kernel
theorem dX12_begin_334 : decode cX12_begin 334 = .ok (.iload_n 1, 1) := by decide +kernel
theorem dX12_begin_335 : decode cX12_begin 335 = .ok (.imul, 1) := by decide +kernel
theorem dX12_begin_336 : decode cX12_begin 336 = .ok (.iload_n 2, 1) := by decide +kernel
theorem dX12_begin_337 : decode cX12_begin 337 = .ok (.iadd, 1) := by decide +kernel
theorem dX12_begin_338 : decode cX12_begin 338 = .ok (.iconst 0, 1) := by decide +kernel
theorem dX12_begin_339 : decode cX12_begin 339 = .ok (.iastore, 1) := by decide +kernel
theorem dX12_begin_340 : decode cX12_begin 340 = .ok (.iinc 2 1, 3) := by decide +kernel
theorem dX12_begin_343 : decode cX12_begin 343 = .ok (.goto (-21), 3) := by decide +kernel
theorem dX12_begin_346 : decode cX12_begin 346 = .ok (.iinc 1 1, 3) := by decide +kernel
theorem dX12_begin_349 : decode cX12_begin 349 = .ok (.goto (-57), 3) := by decide +kernel
theorem dX12_begin_352 : decode cX12_begin 352 = .ok (.return_, 1) := by decide +kernel
theorem cc_begin : Cond.code yX12_begin cX12_begin 4 none ∈ rf_tb := rf_at 2091 (by decide +kernel) (by decide +kernel)
theorem cw_begin : rf_wV yX12_begin cX12_begin 4 none 550 0 := ⟨⟨rf_at 2088 (by decide +kernel) (by decide +kernel), rf_at 2090 (by decide +kernel) (by decide +kernel), rf_sel (q := (yX12_begin, 122)) 107 (by decide +kernel) (by decide +kernel), cc_begin⟩, rfl, by decide +kernel⟩
noncomputable def lq_begin_42 (x1 : Int32) (ρ : rf_S) : Option ((Int32 × rf_S) ⊕ (Int32 × rf_S)) := (if (8192:Int32) ≤ x1 then some (.inr (x1, ρ)) else ix (((8192:Int32) * (ρ.1 0 79)) + x1) 16384 (vl (rf_w ρ 52 (((8192:Int32) * (ρ.1 0 79)) + x1).toNatClampNeg (0:Int32)) (fun ρ_5 => vl (x1 + (1:Int32)) (fun x1_6 => some (.inl (x1_6, ρ_5))))))
noncomputable def lq_begin_91i73 (x1 : Int32) (x2 : Int32) (x3 : Int32) (ρ : rf_S) : Option ((Int32 × rf_S) ⊕ (Int32 × rf_S)) := (if (16:Int32) ≤ x3 then some (.inr (x3, ρ)) else ix (((16:Int32) * x2) + x3) 256 (vl (rf_w ρ 53 (((16:Int32) * x2) + x3).toNatClampNeg (0:Int32)) (fun ρ_8 => vl (x3 + (1:Int32)) (fun x3_9 => some (.inl (x3_9, ρ_8))))))
noncomputable def eq_begin_91i73 (x1 : Int32) (x2 : Int32) (x3 : Int32) (ρ : rf_S) : Option ((Int32 × rf_S) ⊕ (Int32 × rf_S)) := ix x2 16 (vl (rf_w ρ 54 x2.toNatClampNeg (0:Int32)) (fun ρ_10 => ix x2 16 (vl (rf_w ρ_10 55 x2.toNatClampNeg (vp_nar .boolean (0:Int32))) (fun ρ_11 => ix x2 16 (vl (rf_w ρ_11 56 x2.toNatClampNeg (0:Int32)) (fun ρ_12 => ix x2 16 (vl (rf_w ρ_12 57 x2.toNatClampNeg (0:Int32)) (fun ρ_13 => ix x2 16 (vl (rf_w ρ_13 58 x2.toNatClampNeg (0:Int32)) (fun ρ_14 => ix x2 16 (vl (rf_w ρ_14 59 x2.toNatClampNeg (vp_nar .boolean (0:Int32))) (fun ρ_15 => ix x2 16 (vl (rf_w ρ_15 61 x2.toNatClampNeg (0:Int32)) (fun ρ_16 => ix x2 16 (vl (rf_w ρ_16 64 x2.toNatClampNeg (0:Int32)) (fun ρ_17 => ix x2 16 (vl (rf_w ρ_17 66 x2.toNatClampNeg (0:Int32)) (fun ρ_18 => ix x2 16 (vl (rf_w ρ_18 68 x2.toNatClampNeg (0:Int32)) (fun ρ_19 => ix x2 16 (vl (rf_w ρ_19 69 x2.toNatClampNeg (0:Int32)) (fun ρ_20 => ix x2 16 (vl (rf_w ρ_20 70 x2.toNatClampNeg (0:Int32)) (fun ρ_21 => vl (x1 + (1:Int32)) (fun x1_22 => some (.inl (x1_22, ρ_21)))))))))))))))))))))))))))
noncomputable def bq_begin_91i73 (x1 : Int32) (x2 : Int32) (x3 : Int32) (ρ : rf_S) : Option ((Int32 × rf_S) ⊕ (Int32 × rf_S)) := (lp (fun z : (Int32 × rf_S) => lq_begin_91i73 x1 x2 z.1 z.2) (x3, ρ)).bind (fun z => eq_begin_91i73 x1 x2 z.1 z.2)
set_option maxHeartbeats 4000000 in
theorem wq_begin_91i73 (C : rf_C D p s m args meth c cX12_begin 4 none) {x1 : Int32} {x2 : Int32} {x3 : Int32} {ρ ρ' : rf_S} {H : Heap} {locs : List Loc} {ls : Array Slot} {o : (Int32 × rf_S) ⊕ (Int32 × rf_S)} (h : bq_begin_91i73 x1 x2 x3 ρ = some o) (hP : Sum.elim (fun z : (Int32 × rf_S) => ∀ (H : Heap) (locs : List Loc) (ls : Array Slot), rf_G D h0 s z.2 H locs → lv_has ls 4 [(0, .ref h0), (1, .int z.1)] → W p l e ({ frames := 0, cells := 0, slots := 0, locals := 0 }) s m args below meth c H locs 0 0 (MQ below (rf_Q D h0 none ρ') args s 0 0 (rf_A h0)) (F0 m 73 ls [])) (fun z : (Int32 × rf_S) => ∀ (H : Heap) (locs : List Loc) (ls : Array Slot), rf_G D h0 s z.2 H locs → lv_has ls 4 [(0, .ref h0), (1, .int z.1)] → W p l e ({ frames := 0, cells := 0, slots := 0, locals := 0 }) s m args below meth c H locs 0 0 (MQ below (rf_Q D h0 none ρ') args s 0 0 (rf_A h0)) (F0 m 205 ls [])) o) (G : rf_G D h0 s ρ H locs) (hl : lv_has ls 4 [(0, .ref h0), (1, .int x1), (2, .int x2), (3, .int x3)]) : W p l e ({ frames := 0, cells := 0, slots := 0, locals := 0 }) s m args below meth c H locs 0 0 (MQ below (rf_Q D h0 none ρ') args s 0 0 (rf_A h0)) (F0 m 91 ls []) := by
  unfold bq_begin_91i73 at h
  obtain ⟨y, hy, h⟩ := bd_some h
  have hE : (fun z : (Int32 × rf_S) => ∀ (H : Heap) (locs : List Loc) (ls : Array Slot), rf_G D h0 s z.2 H locs → lv_has ls 4 [(0, .ref h0), (1, .int x1), (2, .int x2), (3, .int z.1)] → W p l e ({ frames := 0, cells := 0, slots := 0, locals := 0 }) s m args below meth c H locs 0 0 (MQ below (rf_Q D h0 none ρ') args s 0 0 (rf_A h0)) (F0 m 115 ls [])) y := by
    intro H locs ls G hl
    obtain ⟨x3, ρ⟩ := y
    dsimp only at h G hl
    unfold eq_begin_91i73 at h
    refine lv_aload_n C.1 C.2.1 dX12_begin_115 rfl (lv_at hl 0 rfl) ?_
    refine gf_86 C G dX12_begin_116 ?_
    refine lv_iload_n C.1 C.2.1 dX12_begin_119 rfl (lv_at hl 2 rfl) ?_
    refine lv_iconst (v := (0:Int32)) C.1 C.2.1 dX12_begin_120 (by decide) ?_
    obtain ⟨hi, h⟩ := ix_some h
    refine rf_iast C G 54 rfl (by decide) rfl rfl hi dX12_begin_121 (fun H locs G => ?_)
    refine rf_nm G h (fun ρ_10 G h => ?_)
    refine lv_aload_n C.1 C.2.1 dX12_begin_122 rfl (lv_at hl 0 rfl) ?_
    refine gf_87 C G dX12_begin_123 ?_
    refine lv_iload_n C.1 C.2.1 dX12_begin_126 rfl (lv_at hl 2 rfl) ?_
    refine lv_iconst (v := (0:Int32)) C.1 C.2.1 dX12_begin_127 (by decide) ?_
    obtain ⟨hi, h⟩ := ix_some h
    refine rf_zast C G 55 rfl (by decide) rfl rfl hi dX12_begin_128 (fun H locs G => ?_)
    refine rf_nm G h (fun ρ_11 G h => ?_)
    refine lv_aload_n C.1 C.2.1 dX12_begin_129 rfl (lv_at hl 0 rfl) ?_
    refine gf_88 C G dX12_begin_130 ?_
    refine lv_iload_n C.1 C.2.1 dX12_begin_133 rfl (lv_at hl 2 rfl) ?_
    refine lv_iconst (v := (0:Int32)) C.1 C.2.1 dX12_begin_134 (by decide) ?_
    obtain ⟨hi, h⟩ := ix_some h
    refine rf_iast C G 56 rfl (by decide) rfl rfl hi dX12_begin_135 (fun H locs G => ?_)
    refine rf_nm G h (fun ρ_12 G h => ?_)
    refine lv_aload_n C.1 C.2.1 dX12_begin_136 rfl (lv_at hl 0 rfl) ?_
    refine gf_89 C G dX12_begin_137 ?_
    refine lv_iload_n C.1 C.2.1 dX12_begin_140 rfl (lv_at hl 2 rfl) ?_
    refine lv_iconst (v := (0:Int32)) C.1 C.2.1 dX12_begin_141 (by decide) ?_
    obtain ⟨hi, h⟩ := ix_some h
    refine rf_iast C G 57 rfl (by decide) rfl rfl hi dX12_begin_142 (fun H locs G => ?_)
    refine rf_nm G h (fun ρ_13 G h => ?_)
    refine lv_aload_n C.1 C.2.1 dX12_begin_143 rfl (lv_at hl 0 rfl) ?_
    refine gf_90 C G dX12_begin_144 ?_
    refine lv_iload_n C.1 C.2.1 dX12_begin_147 rfl (lv_at hl 2 rfl) ?_
    refine lv_iconst (v := (0:Int32)) C.1 C.2.1 dX12_begin_148 (by decide) ?_
    obtain ⟨hi, h⟩ := ix_some h
    refine rf_iast C G 58 rfl (by decide) rfl rfl hi dX12_begin_149 (fun H locs G => ?_)
    refine rf_nm G h (fun ρ_14 G h => ?_)
    refine lv_aload_n C.1 C.2.1 dX12_begin_150 rfl (lv_at hl 0 rfl) ?_
    refine gf_91 C G dX12_begin_151 ?_
    refine lv_iload_n C.1 C.2.1 dX12_begin_154 rfl (lv_at hl 2 rfl) ?_
    refine lv_iconst (v := (0:Int32)) C.1 C.2.1 dX12_begin_155 (by decide) ?_
    obtain ⟨hi, h⟩ := ix_some h
    refine rf_zast C G 59 rfl (by decide) rfl rfl hi dX12_begin_156 (fun H locs G => ?_)
    refine rf_nm G h (fun ρ_15 G h => ?_)
    refine lv_aload_n C.1 C.2.1 dX12_begin_157 rfl (lv_at hl 0 rfl) ?_
    refine gf_93 C G dX12_begin_158 ?_
    refine lv_iload_n C.1 C.2.1 dX12_begin_161 rfl (lv_at hl 2 rfl) ?_
    refine lv_iconst (v := (0:Int32)) C.1 C.2.1 dX12_begin_162 (by decide) ?_
    obtain ⟨hi, h⟩ := ix_some h
    refine rf_iast C G 61 rfl (by decide) rfl rfl hi dX12_begin_163 (fun H locs G => ?_)
    refine rf_nm G h (fun ρ_16 G h => ?_)
    refine lv_aload_n C.1 C.2.1 dX12_begin_164 rfl (lv_at hl 0 rfl) ?_
    refine gf_96 C G dX12_begin_165 ?_
    refine lv_iload_n C.1 C.2.1 dX12_begin_168 rfl (lv_at hl 2 rfl) ?_
    refine lv_iconst (v := (0:Int32)) C.1 C.2.1 dX12_begin_169 (by decide) ?_
    obtain ⟨hi, h⟩ := ix_some h
    refine rf_iast C G 64 rfl (by decide) rfl rfl hi dX12_begin_170 (fun H locs G => ?_)
    refine rf_nm G h (fun ρ_17 G h => ?_)
    refine lv_aload_n C.1 C.2.1 dX12_begin_171 rfl (lv_at hl 0 rfl) ?_
    refine gf_98 C G dX12_begin_172 ?_
    refine lv_iload_n C.1 C.2.1 dX12_begin_175 rfl (lv_at hl 2 rfl) ?_
    refine lv_iconst (v := (0:Int32)) C.1 C.2.1 dX12_begin_176 (by decide) ?_
    obtain ⟨hi, h⟩ := ix_some h
    refine rf_iast C G 66 rfl (by decide) rfl rfl hi dX12_begin_177 (fun H locs G => ?_)
    refine rf_nm G h (fun ρ_18 G h => ?_)
    refine lv_aload_n C.1 C.2.1 dX12_begin_178 rfl (lv_at hl 0 rfl) ?_
    refine gf_100 C G dX12_begin_179 ?_
    refine lv_iload_n C.1 C.2.1 dX12_begin_182 rfl (lv_at hl 2 rfl) ?_
    refine lv_iconst (v := (0:Int32)) C.1 C.2.1 dX12_begin_183 (by decide) ?_
    obtain ⟨hi, h⟩ := ix_some h
    refine rf_iast C G 68 rfl (by decide) rfl rfl hi dX12_begin_184 (fun H locs G => ?_)
    refine rf_nm G h (fun ρ_19 G h => ?_)
    refine lv_aload_n C.1 C.2.1 dX12_begin_185 rfl (lv_at hl 0 rfl) ?_
    refine gf_101 C G dX12_begin_186 ?_
    refine lv_iload_n C.1 C.2.1 dX12_begin_189 rfl (lv_at hl 2 rfl) ?_
    refine lv_iconst (v := (0:Int32)) C.1 C.2.1 dX12_begin_190 (by decide) ?_
    obtain ⟨hi, h⟩ := ix_some h
    refine rf_iast C G 69 rfl (by decide) rfl rfl hi dX12_begin_191 (fun H locs G => ?_)
    refine rf_nm G h (fun ρ_20 G h => ?_)
    refine lv_aload_n C.1 C.2.1 dX12_begin_192 rfl (lv_at hl 0 rfl) ?_
    refine gf_102 C G dX12_begin_193 ?_
    refine lv_iload_n C.1 C.2.1 dX12_begin_196 rfl (lv_at hl 2 rfl) ?_
    refine lv_iconst (v := (0:Int32)) C.1 C.2.1 dX12_begin_197 (by decide) ?_
    obtain ⟨hi, h⟩ := ix_some h
    refine rf_iast C G 70 rfl (by decide) rfl rfl hi dX12_begin_198 (fun H locs G => ?_)
    refine rf_nm G h (fun ρ_21 G h => ?_)
    refine vl_ex h (fun x1_22 ey h => ?_)
    refine lv_iinc (v := x1_22) (lv' := [(1, .int x1_22), (0, .ref h0), (2, .int x2), (3, .int x3)]) C.1 C.2.1 dX12_begin_199 hl (k := 1) rfl (by rw [ey]; rfl) (by decide) rfl (fun ls hl => ?_)
    refine lv_goto (tgt := 73) C.1 C.2.1 dX12_begin_202 (by decide) ?_
    cases h
    exact hP _ _ _ G (lv_sub hl [1, 0] rfl)
  refine lp_recE (fun z : (Int32 × rf_S) => ∀ (H : Heap) (locs : List Loc) (ls : Array Slot), rf_G D h0 s z.2 H locs → lv_has ls 4 [(0, .ref h0), (1, .int x1), (2, .int x2), (3, .int z.1)] → W p l e ({ frames := 0, cells := 0, slots := 0, locals := 0 }) s m args below meth c H locs 0 0 (MQ below (rf_Q D h0 none ρ') args s 0 0 (rf_A h0)) (F0 m 91 ls [])) (fun z : (Int32 × rf_S) => ∀ (H : Heap) (locs : List Loc) (ls : Array Slot), rf_G D h0 s z.2 H locs → lv_has ls 4 [(0, .ref h0), (1, .int x1), (2, .int x2), (3, .int z.1)] → W p l e ({ frames := 0, cells := 0, slots := 0, locals := 0 }) s m args below meth c H locs 0 0 (MQ below (rf_Q D h0 none ρ') args s 0 0 (rf_A h0)) (F0 m 115 ls [])) ?_ _ _ hy hE _ _ _ G hl
  clear hE hy G hl h hP
  intro z o h hP H locs ls G hl
  obtain ⟨x3, ρ⟩ := z
  dsimp only at h G hl
  unfold lq_begin_91i73 at h
  refine lv_iload_n C.1 C.2.1 dX12_begin_91 rfl (lv_at hl 3 rfl) ?_
  refine lv_bipush (v := (16:Int32)) C.1 C.2.1 dX12_begin_92 (by decide) ?_
  refine lv_icmp_ge (tgt := 115) C.1 C.2.1 dX12_begin_94 (by decide) (fun hc => ?_) (fun hc => ?_)
  · rw [if_pos hc] at h
    cases h
    exact hP _ _ _ G (lv_sub hl [0, 1, 2, 3] rfl)
  · rw [if_neg hc] at h
    refine lv_aload_n C.1 C.2.1 dX12_begin_97 rfl (lv_at hl 0 rfl) ?_
    refine gf_85 C G dX12_begin_98 ?_
    refine lv_bipush (v := (16:Int32)) C.1 C.2.1 dX12_begin_101 (by decide) ?_
    refine lv_iload_n C.1 C.2.1 dX12_begin_103 rfl (lv_at hl 2 rfl) ?_
    refine lv_imul C.1 C.2.1 dX12_begin_104 ?_
    refine lv_iload_n C.1 C.2.1 dX12_begin_105 rfl (lv_at hl 3 rfl) ?_
    refine lv_iadd C.1 C.2.1 dX12_begin_106 ?_
    refine lv_iconst (v := (0:Int32)) C.1 C.2.1 dX12_begin_107 (by decide) ?_
    obtain ⟨hi, h⟩ := ix_some h
    refine rf_iast C G 53 rfl (by decide) rfl rfl hi dX12_begin_108 (fun H locs G => ?_)
    refine rf_nm G h (fun ρ_8 G h => ?_)
    refine vl_ex h (fun x3_9 ey h => ?_)
    refine lv_iinc (v := x3_9) (lv' := [(3, .int x3_9), (0, .ref h0), (1, .int x1), (2, .int x2)]) C.1 C.2.1 dX12_begin_109 hl (k := 3) rfl (by rw [ey]; rfl) (by decide) rfl (fun ls hl => ?_)
    refine lv_goto (tgt := 91) C.1 C.2.1 dX12_begin_112 (by decide) ?_
    cases h
    exact hP _ _ _ G (lv_sub hl [1, 2, 3, 0] rfl)
noncomputable def lq_begin_73 (x1 : Int32) (ρ : rf_S) : Option ((Int32 × rf_S) ⊕ (Int32 × rf_S)) := (if (8:Int32) ≤ x1 then some (.inr (x1, ρ)) else vl (((8:Int32) * (ρ.1 0 79)) + x1) (fun x2_7 => bq_begin_91i73 x1 x2_7 (0:Int32) ρ))
noncomputable def lq_begin_217i207 (x1 : Int32) (x2 : Int32) (ρ : rf_S) : Option ((Int32 × rf_S) ⊕ (Int32 × rf_S)) := ix x1 8 (ix (ρ.1 38 x1.toNatClampNeg) 112000 ((if (ρ.1 3 (ρ.1 38 x1.toNatClampNeg).toNatClampNeg) ≤ x2 then some (.inr (x2, ρ)) else ix x1 8 (ix x1 8 (ix (ρ.1 38 x1.toNatClampNeg) 112000 (ix ((ρ.1 2 (ρ.1 38 x1.toNatClampNeg).toNatClampNeg) + x2) 690000 (ix ((((8192:Int32) * (ρ.1 0 79)) + (ρ.1 28 x1.toNatClampNeg)) + x2) 16384 (vl (rf_w ρ 52 ((((8192:Int32) * (ρ.1 0 79)) + (ρ.1 28 x1.toNatClampNeg)) + x2).toNatClampNeg (ρ.1 12 ((ρ.1 2 (ρ.1 38 x1.toNatClampNeg).toNatClampNeg) + x2).toNatClampNeg)) (fun ρ_23 => vl (x2 + (1:Int32)) (fun x2_24 => some (.inl (x2_24, ρ_23))))))))))))
noncomputable def eq_begin_217i207 (x1 : Int32) (x2 : Int32) (ρ : rf_S) : Option ((Int32 × rf_S) ⊕ (Int32 × rf_S)) := vl (x1 + (1:Int32)) (fun x1_25 => some (.inl (x1_25, ρ)))
noncomputable def bq_begin_217i207 (x1 : Int32) (x2 : Int32) (ρ : rf_S) : Option ((Int32 × rf_S) ⊕ (Int32 × rf_S)) := (lp (fun z : (Int32 × rf_S) => lq_begin_217i207 x1 z.1 z.2) (x2, ρ)).bind (fun z => eq_begin_217i207 x1 z.1 z.2)
set_option maxHeartbeats 4000000 in
theorem wq_begin_217i207 (C : rf_C D p s m args meth c cX12_begin 4 none) {x1 : Int32} {x2 : Int32} {ρ ρ' : rf_S} {H : Heap} {locs : List Loc} {ls : Array Slot} {o : (Int32 × rf_S) ⊕ (Int32 × rf_S)} (h : bq_begin_217i207 x1 x2 ρ = some o) (hP : Sum.elim (fun z : (Int32 × rf_S) => ∀ (H : Heap) (locs : List Loc) (ls : Array Slot), rf_G D h0 s z.2 H locs → lv_has ls 4 [(0, .ref h0), (1, .int z.1)] → W p l e ({ frames := 0, cells := 0, slots := 0, locals := 0 }) s m args below meth c H locs 0 0 (MQ below (rf_Q D h0 none ρ') args s 0 0 (rf_A h0)) (F0 m 207 ls [])) (fun z : (Int32 × rf_S) => ∀ (H : Heap) (locs : List Loc) (ls : Array Slot), rf_G D h0 s z.2 H locs → lv_has ls 4 [(0, .ref h0), (1, .int z.1)] → W p l e ({ frames := 0, cells := 0, slots := 0, locals := 0 }) s m args below meth c H locs 0 0 (MQ below (rf_Q D h0 none ρ') args s 0 0 (rf_A h0)) (F0 m 284 ls [])) o) (G : rf_G D h0 s ρ H locs) (hl : lv_has ls 4 [(0, .ref h0), (1, .int x1), (2, .int x2)]) : W p l e ({ frames := 0, cells := 0, slots := 0, locals := 0 }) s m args below meth c H locs 0 0 (MQ below (rf_Q D h0 none ρ') args s 0 0 (rf_A h0)) (F0 m 217 ls []) := by
  unfold bq_begin_217i207 at h
  obtain ⟨y, hy, h⟩ := bd_some h
  have hE : (fun z : (Int32 × rf_S) => ∀ (H : Heap) (locs : List Loc) (ls : Array Slot), rf_G D h0 s z.2 H locs → lv_has ls 4 [(0, .ref h0), (1, .int x1), (2, .int z.1)] → W p l e ({ frames := 0, cells := 0, slots := 0, locals := 0 }) s m args below meth c H locs 0 0 (MQ below (rf_Q D h0 none ρ') args s 0 0 (rf_A h0)) (F0 m 278 ls [])) y := by
    intro H locs ls G hl
    obtain ⟨x2, ρ⟩ := y
    dsimp only at h G hl
    unfold eq_begin_217i207 at h
    refine vl_ex h (fun x1_25 ey h => ?_)
    refine lv_iinc (v := x1_25) (lv' := [(1, .int x1_25), (0, .ref h0), (2, .int x2)]) C.1 C.2.1 dX12_begin_278 hl (k := 1) rfl (by rw [ey]; rfl) (by decide) rfl (fun ls hl => ?_)
    refine lv_goto (tgt := 207) C.1 C.2.1 dX12_begin_281 (by decide) ?_
    cases h
    exact hP _ _ _ G (lv_sub hl [1, 0] rfl)
  refine lp_recE (fun z : (Int32 × rf_S) => ∀ (H : Heap) (locs : List Loc) (ls : Array Slot), rf_G D h0 s z.2 H locs → lv_has ls 4 [(0, .ref h0), (1, .int x1), (2, .int z.1)] → W p l e ({ frames := 0, cells := 0, slots := 0, locals := 0 }) s m args below meth c H locs 0 0 (MQ below (rf_Q D h0 none ρ') args s 0 0 (rf_A h0)) (F0 m 217 ls [])) (fun z : (Int32 × rf_S) => ∀ (H : Heap) (locs : List Loc) (ls : Array Slot), rf_G D h0 s z.2 H locs → lv_has ls 4 [(0, .ref h0), (1, .int x1), (2, .int z.1)] → W p l e ({ frames := 0, cells := 0, slots := 0, locals := 0 }) s m args below meth c H locs 0 0 (MQ below (rf_Q D h0 none ρ') args s 0 0 (rf_A h0)) (F0 m 278 ls [])) ?_ _ _ hy hE _ _ _ G hl
  clear hE hy G hl h hP
  intro z o h hP H locs ls G hl
  obtain ⟨x2, ρ⟩ := z
  dsimp only at h G hl
  unfold lq_begin_217i207 at h
  refine lv_iload_n C.1 C.2.1 dX12_begin_217 rfl (lv_at hl 2 rfl) ?_
  refine lv_aload_n C.1 C.2.1 dX12_begin_218 rfl (lv_at hl 0 rfl) ?_
  refine gf_2 C G dX12_begin_219 ?_
  refine lv_aload_n C.1 C.2.1 dX12_begin_222 rfl (lv_at hl 0 rfl) ?_
  refine gf_68 C G dX12_begin_223 ?_
  refine lv_iload_n C.1 C.2.1 dX12_begin_226 rfl (lv_at hl 1 rfl) ?_
  obtain ⟨hi, h⟩ := ix_some h
  refine rf_iald C G 38 rfl (by decide) rfl rfl hi dX12_begin_227 ?_
  obtain ⟨hi, h⟩ := ix_some h
  refine rf_iald C G 3 rfl (by decide) rfl rfl hi dX12_begin_228 ?_
  refine lv_icmp_ge (tgt := 278) C.1 C.2.1 dX12_begin_229 (by decide) (fun hc => ?_) (fun hc => ?_)
  · rw [if_pos hc] at h
    cases h
    exact hP _ _ _ G (lv_sub hl [0, 1, 2] rfl)
  · rw [if_neg hc] at h
    refine lv_aload_n C.1 C.2.1 dX12_begin_232 rfl (lv_at hl 0 rfl) ?_
    refine gf_84 C G dX12_begin_233 ?_
    refine lv_sipush (v := (8192:Int32)) C.1 C.2.1 dX12_begin_236 (by decide) ?_
    refine lv_aload_n C.1 C.2.1 dX12_begin_239 rfl (lv_at hl 0 rfl) ?_
    refine gf_79 C G dX12_begin_240 ?_
    refine lv_imul C.1 C.2.1 dX12_begin_243 ?_
    refine lv_aload_n C.1 C.2.1 dX12_begin_244 rfl (lv_at hl 0 rfl) ?_
    refine gf_56 C G dX12_begin_245 ?_
    refine lv_iload_n C.1 C.2.1 dX12_begin_248 rfl (lv_at hl 1 rfl) ?_
    obtain ⟨hi, h⟩ := ix_some h
    refine rf_iald C G 28 rfl (by decide) rfl rfl hi dX12_begin_249 ?_
    refine lv_iadd C.1 C.2.1 dX12_begin_250 ?_
    refine lv_iload_n C.1 C.2.1 dX12_begin_251 rfl (lv_at hl 2 rfl) ?_
    refine lv_iadd C.1 C.2.1 dX12_begin_252 ?_
    refine lv_aload_n C.1 C.2.1 dX12_begin_253 rfl (lv_at hl 0 rfl) ?_
    refine gf_17 C G dX12_begin_254 ?_
    refine lv_aload_n C.1 C.2.1 dX12_begin_257 rfl (lv_at hl 0 rfl) ?_
    refine gf_1 C G dX12_begin_258 ?_
    refine lv_aload_n C.1 C.2.1 dX12_begin_261 rfl (lv_at hl 0 rfl) ?_
    refine gf_68 C G dX12_begin_262 ?_
    refine lv_iload_n C.1 C.2.1 dX12_begin_265 rfl (lv_at hl 1 rfl) ?_
    obtain ⟨hi, h⟩ := ix_some h
    refine rf_iald C G 38 rfl (by decide) rfl rfl hi dX12_begin_266 ?_
    obtain ⟨hi, h⟩ := ix_some h
    refine rf_iald C G 2 rfl (by decide) rfl rfl hi dX12_begin_267 ?_
    refine lv_iload_n C.1 C.2.1 dX12_begin_268 rfl (lv_at hl 2 rfl) ?_
    refine lv_iadd C.1 C.2.1 dX12_begin_269 ?_
    obtain ⟨hi, h⟩ := ix_some h
    refine rf_iald C G 12 rfl (by decide) rfl rfl hi dX12_begin_270 ?_
    obtain ⟨hi, h⟩ := ix_some h
    refine rf_iast C G 52 rfl (by decide) rfl rfl hi dX12_begin_271 (fun H locs G => ?_)
    refine rf_nm G h (fun ρ_23 G h => ?_)
    refine vl_ex h (fun x2_24 ey h => ?_)
    refine lv_iinc (v := x2_24) (lv' := [(2, .int x2_24), (0, .ref h0), (1, .int x1)]) C.1 C.2.1 dX12_begin_272 hl (k := 2) rfl (by rw [ey]; rfl) (by decide) rfl (fun ls hl => ?_)
    refine lv_goto (tgt := 217) C.1 C.2.1 dX12_begin_275 (by decide) ?_
    cases h
    exact hP _ _ _ G (lv_sub hl [1, 2, 0] rfl)
noncomputable def lq_begin_207 (x1 : Int32) (ρ : rf_S) : Option ((Int32 × rf_S) ⊕ (Int32 × rf_S)) := (if (ρ.1 0 55) ≤ x1 then some (.inr (x1, ρ)) else bq_begin_217i207 x1 (0:Int32) ρ)
noncomputable def lq_begin_322i292 (x1 : Int32) (x2 : Int32) (ρ : rf_S) : Option ((Int32 × rf_S) ⊕ (Int32 × rf_S)) := (if (16:Int32) ≤ x2 then some (.inr (x2, ρ)) else ix (((16:Int32) * x1) + x2) 512 (vl (rf_w ρ 71 (((16:Int32) * x1) + x2).toNatClampNeg (0:Int32)) (fun ρ_29 => vl (x2 + (1:Int32)) (fun x2_30 => some (.inl (x2_30, ρ_29))))))
noncomputable def eq_begin_322i292 (x1 : Int32) (x2 : Int32) (ρ : rf_S) : Option ((Int32 × rf_S) ⊕ (Int32 × rf_S)) := vl (x1 + (1:Int32)) (fun x1_31 => some (.inl (x1_31, ρ)))
noncomputable def bq_begin_322i292 (x1 : Int32) (x2 : Int32) (ρ : rf_S) : Option ((Int32 × rf_S) ⊕ (Int32 × rf_S)) := (lp (fun z : (Int32 × rf_S) => lq_begin_322i292 x1 z.1 z.2) (x2, ρ)).bind (fun z => eq_begin_322i292 x1 z.1 z.2)
set_option maxHeartbeats 4000000 in
theorem wq_begin_322i292 (C : rf_C D p s m args meth c cX12_begin 4 none) {x1 : Int32} {x2 : Int32} {ρ ρ' : rf_S} {H : Heap} {locs : List Loc} {ls : Array Slot} {o : (Int32 × rf_S) ⊕ (Int32 × rf_S)} (h : bq_begin_322i292 x1 x2 ρ = some o) (hP : Sum.elim (fun z : (Int32 × rf_S) => ∀ (H : Heap) (locs : List Loc) (ls : Array Slot), rf_G D h0 s z.2 H locs → lv_has ls 4 [(0, .ref h0), (1, .int z.1)] → W p l e ({ frames := 0, cells := 0, slots := 0, locals := 0 }) s m args below meth c H locs 0 0 (MQ below (rf_Q D h0 none ρ') args s 0 0 (rf_A h0)) (F0 m 292 ls [])) (fun z : (Int32 × rf_S) => ∀ (H : Heap) (locs : List Loc) (ls : Array Slot), rf_G D h0 s z.2 H locs → lv_has ls 4 [(0, .ref h0), (1, .int z.1)] → W p l e ({ frames := 0, cells := 0, slots := 0, locals := 0 }) s m args below meth c H locs 0 0 (MQ below (rf_Q D h0 none ρ') args s 0 0 (rf_A h0)) (F0 m 352 ls [])) o) (G : rf_G D h0 s ρ H locs) (hl : lv_has ls 4 [(0, .ref h0), (1, .int x1), (2, .int x2)]) : W p l e ({ frames := 0, cells := 0, slots := 0, locals := 0 }) s m args below meth c H locs 0 0 (MQ below (rf_Q D h0 none ρ') args s 0 0 (rf_A h0)) (F0 m 322 ls []) := by
  unfold bq_begin_322i292 at h
  obtain ⟨y, hy, h⟩ := bd_some h
  have hE : (fun z : (Int32 × rf_S) => ∀ (H : Heap) (locs : List Loc) (ls : Array Slot), rf_G D h0 s z.2 H locs → lv_has ls 4 [(0, .ref h0), (1, .int x1), (2, .int z.1)] → W p l e ({ frames := 0, cells := 0, slots := 0, locals := 0 }) s m args below meth c H locs 0 0 (MQ below (rf_Q D h0 none ρ') args s 0 0 (rf_A h0)) (F0 m 346 ls [])) y := by
    intro H locs ls G hl
    obtain ⟨x2, ρ⟩ := y
    dsimp only at h G hl
    unfold eq_begin_322i292 at h
    refine vl_ex h (fun x1_31 ey h => ?_)
    refine lv_iinc (v := x1_31) (lv' := [(1, .int x1_31), (0, .ref h0), (2, .int x2)]) C.1 C.2.1 dX12_begin_346 hl (k := 1) rfl (by rw [ey]; rfl) (by decide) rfl (fun ls hl => ?_)
    refine lv_goto (tgt := 292) C.1 C.2.1 dX12_begin_349 (by decide) ?_
    cases h
    exact hP _ _ _ G (lv_sub hl [1, 0] rfl)
  refine lp_recE (fun z : (Int32 × rf_S) => ∀ (H : Heap) (locs : List Loc) (ls : Array Slot), rf_G D h0 s z.2 H locs → lv_has ls 4 [(0, .ref h0), (1, .int x1), (2, .int z.1)] → W p l e ({ frames := 0, cells := 0, slots := 0, locals := 0 }) s m args below meth c H locs 0 0 (MQ below (rf_Q D h0 none ρ') args s 0 0 (rf_A h0)) (F0 m 322 ls [])) (fun z : (Int32 × rf_S) => ∀ (H : Heap) (locs : List Loc) (ls : Array Slot), rf_G D h0 s z.2 H locs → lv_has ls 4 [(0, .ref h0), (1, .int x1), (2, .int z.1)] → W p l e ({ frames := 0, cells := 0, slots := 0, locals := 0 }) s m args below meth c H locs 0 0 (MQ below (rf_Q D h0 none ρ') args s 0 0 (rf_A h0)) (F0 m 346 ls [])) ?_ _ _ hy hE _ _ _ G hl
  clear hE hy G hl h hP
  intro z o h hP H locs ls G hl
  obtain ⟨x2, ρ⟩ := z
  dsimp only at h G hl
  unfold lq_begin_322i292 at h
  refine lv_iload_n C.1 C.2.1 dX12_begin_322 rfl (lv_at hl 2 rfl) ?_
  refine lv_bipush (v := (16:Int32)) C.1 C.2.1 dX12_begin_323 (by decide) ?_
  refine lv_icmp_ge (tgt := 346) C.1 C.2.1 dX12_begin_325 (by decide) (fun hc => ?_) (fun hc => ?_)
  · rw [if_pos hc] at h
    cases h
    exact hP _ _ _ G (lv_sub hl [0, 1, 2] rfl)
  · rw [if_neg hc] at h
    refine lv_aload_n C.1 C.2.1 dX12_begin_328 rfl (lv_at hl 0 rfl) ?_
    refine gf_103 C G dX12_begin_329 ?_
    refine lv_bipush (v := (16:Int32)) C.1 C.2.1 dX12_begin_332 (by decide) ?_
    refine lv_iload_n C.1 C.2.1 dX12_begin_334 rfl (lv_at hl 1 rfl) ?_
    refine lv_imul C.1 C.2.1 dX12_begin_335 ?_
    refine lv_iload_n C.1 C.2.1 dX12_begin_336 rfl (lv_at hl 2 rfl) ?_
    refine lv_iadd C.1 C.2.1 dX12_begin_337 ?_
    refine lv_iconst (v := (0:Int32)) C.1 C.2.1 dX12_begin_338 (by decide) ?_
    obtain ⟨hi, h⟩ := ix_some h
    refine rf_iast C G 71 rfl (by decide) rfl rfl hi dX12_begin_339 (fun H locs G => ?_)
    refine rf_nm G h (fun ρ_29 G h => ?_)
    refine vl_ex h (fun x2_30 ey h => ?_)
    refine lv_iinc (v := x2_30) (lv' := [(2, .int x2_30), (0, .ref h0), (1, .int x1)]) C.1 C.2.1 dX12_begin_340 hl (k := 2) rfl (by rw [ey]; rfl) (by decide) rfl (fun ls hl => ?_)
    refine lv_goto (tgt := 322) C.1 C.2.1 dX12_begin_343 (by decide) ?_
    cases h
    exact hP _ _ _ G (lv_sub hl [1, 2, 0] rfl)
noncomputable def lq_begin_292 (x1 : Int32) (ρ : rf_S) : Option ((Int32 × rf_S) ⊕ (Int32 × rf_S)) := (if (((16:Int32) * (ρ.1 0 79)) + (16:Int32)) ≤ x1 then some (.inr (x1, ρ)) else ix x1 32 (vl (rf_w ρ 72 x1.toNatClampNeg (vp_nar .boolean (0:Int32))) (fun ρ_27 => ix x1 32 (vl (rf_w ρ_27 73 x1.toNatClampNeg (-1:Int32)) (fun ρ_28 => bq_begin_322i292 x1 (0:Int32) ρ_28)))))
noncomputable def eq_begin_292 (x1 : Int32) (ρ : rf_S) : Option (rf_S) := some ρ
noncomputable def bq_begin_292 (x1 : Int32) (ρ : rf_S) : Option (rf_S) := (lp (fun z : (Int32 × rf_S) => lq_begin_292  z.1 z.2) (x1, ρ)).bind (fun z => eq_begin_292  z.1 z.2)
set_option maxHeartbeats 4000000 in
theorem wq_begin_292 (C : rf_C D p s m args meth c cX12_begin 4 none) {x1 : Int32} {ρ ρ' : rf_S} {H : Heap} {locs : List Loc} {ls : Array Slot} (h : bq_begin_292 x1 ρ = some ρ') (G : rf_G D h0 s ρ H locs) (hl : lv_has ls 4 [(0, .ref h0), (1, .int x1)]) : W p l e ({ frames := 0, cells := 0, slots := 0, locals := 0 }) s m args below meth c H locs 0 0 (MQ below (rf_Q D h0 none ρ') args s 0 0 (rf_A h0)) (F0 m 292 ls []) := by
  unfold bq_begin_292 at h
  obtain ⟨y, hy, h⟩ := bd_some h
  have hE : (fun z : (Int32 × rf_S) => ∀ (H : Heap) (locs : List Loc) (ls : Array Slot), rf_G D h0 s z.2 H locs → lv_has ls 4 [(0, .ref h0), (1, .int z.1)] → W p l e ({ frames := 0, cells := 0, slots := 0, locals := 0 }) s m args below meth c H locs 0 0 (MQ below (rf_Q D h0 none ρ') args s 0 0 (rf_A h0)) (F0 m 352 ls [])) y := by
    intro H locs ls G hl
    obtain ⟨x1, ρ⟩ := y
    dsimp only at h G hl
    unfold eq_begin_292 at h
    exact rf_vret C G h dX12_begin_352
  refine lp_recE (fun z : (Int32 × rf_S) => ∀ (H : Heap) (locs : List Loc) (ls : Array Slot), rf_G D h0 s z.2 H locs → lv_has ls 4 [(0, .ref h0), (1, .int z.1)] → W p l e ({ frames := 0, cells := 0, slots := 0, locals := 0 }) s m args below meth c H locs 0 0 (MQ below (rf_Q D h0 none ρ') args s 0 0 (rf_A h0)) (F0 m 292 ls [])) (fun z : (Int32 × rf_S) => ∀ (H : Heap) (locs : List Loc) (ls : Array Slot), rf_G D h0 s z.2 H locs → lv_has ls 4 [(0, .ref h0), (1, .int z.1)] → W p l e ({ frames := 0, cells := 0, slots := 0, locals := 0 }) s m args below meth c H locs 0 0 (MQ below (rf_Q D h0 none ρ') args s 0 0 (rf_A h0)) (F0 m 352 ls [])) ?_ _ _ hy hE _ _ _ G hl
  clear hE hy G hl h
  intro z o h hP H locs ls G hl
  obtain ⟨x1, ρ⟩ := z
  dsimp only at h G hl
  unfold lq_begin_292 at h
  refine lv_iload_n C.1 C.2.1 dX12_begin_292 rfl (lv_at hl 1 rfl) ?_
  refine lv_bipush (v := (16:Int32)) C.1 C.2.1 dX12_begin_293 (by decide) ?_
  refine lv_aload_n C.1 C.2.1 dX12_begin_295 rfl (lv_at hl 0 rfl) ?_
  refine gf_79 C G dX12_begin_296 ?_
  refine lv_imul C.1 C.2.1 dX12_begin_299 ?_
  refine lv_bipush (v := (16:Int32)) C.1 C.2.1 dX12_begin_300 (by decide) ?_
  refine lv_iadd C.1 C.2.1 dX12_begin_302 ?_
  refine lv_icmp_ge (tgt := 352) C.1 C.2.1 dX12_begin_303 (by decide) (fun hc => ?_) (fun hc => ?_)
  · rw [if_pos hc] at h
    cases h
    exact hP _ _ _ G (lv_sub hl [0, 1] rfl)
  · rw [if_neg hc] at h
    refine lv_aload_n C.1 C.2.1 dX12_begin_306 rfl (lv_at hl 0 rfl) ?_
    refine gf_104 C G dX12_begin_307 ?_
    refine lv_iload_n C.1 C.2.1 dX12_begin_310 rfl (lv_at hl 1 rfl) ?_
    refine lv_iconst (v := (0:Int32)) C.1 C.2.1 dX12_begin_311 (by decide) ?_
    obtain ⟨hi, h⟩ := ix_some h
    refine rf_zast C G 72 rfl (by decide) rfl rfl hi dX12_begin_312 (fun H locs G => ?_)
    refine rf_nm G h (fun ρ_27 G h => ?_)
    refine lv_aload_n C.1 C.2.1 dX12_begin_313 rfl (lv_at hl 0 rfl) ?_
    refine gf_105 C G dX12_begin_314 ?_
    refine lv_iload_n C.1 C.2.1 dX12_begin_317 rfl (lv_at hl 1 rfl) ?_
    refine lv_iconst (v := (-1:Int32)) C.1 C.2.1 dX12_begin_318 (by decide) ?_
    obtain ⟨hi, h⟩ := ix_some h
    refine rf_iast C G 73 rfl (by decide) rfl rfl hi dX12_begin_319 (fun H locs G => ?_)
    refine rf_nm G h (fun ρ_28 G h => ?_)
    refine lv_iconst (v := (0:Int32)) C.1 C.2.1 dX12_begin_320 (by decide) ?_
    refine lv_istore_n (lv' := [(2, .int (0:Int32)), (0, .ref h0), (1, .int x1)]) C.1 C.2.1 dX12_begin_321 rfl hl (by decide) rfl (fun ls hl => ?_)
    exact wq_begin_322i292 C h hP G (lv_sub hl [1, 2, 0] rfl)
noncomputable def eq_begin_207 (x1 : Int32) (ρ : rf_S) : Option (rf_S) := vl ((16:Int32) * (ρ.1 0 79)) (fun x1_26 => bq_begin_292 x1_26 ρ)
noncomputable def bq_begin_207 (x1 : Int32) (ρ : rf_S) : Option (rf_S) := (lp (fun z : (Int32 × rf_S) => lq_begin_207  z.1 z.2) (x1, ρ)).bind (fun z => eq_begin_207  z.1 z.2)
set_option maxHeartbeats 4000000 in
theorem wq_begin_207 (C : rf_C D p s m args meth c cX12_begin 4 none) {x1 : Int32} {ρ ρ' : rf_S} {H : Heap} {locs : List Loc} {ls : Array Slot} (h : bq_begin_207 x1 ρ = some ρ') (G : rf_G D h0 s ρ H locs) (hl : lv_has ls 4 [(0, .ref h0), (1, .int x1)]) : W p l e ({ frames := 0, cells := 0, slots := 0, locals := 0 }) s m args below meth c H locs 0 0 (MQ below (rf_Q D h0 none ρ') args s 0 0 (rf_A h0)) (F0 m 207 ls []) := by
  unfold bq_begin_207 at h
  obtain ⟨y, hy, h⟩ := bd_some h
  have hE : (fun z : (Int32 × rf_S) => ∀ (H : Heap) (locs : List Loc) (ls : Array Slot), rf_G D h0 s z.2 H locs → lv_has ls 4 [(0, .ref h0), (1, .int z.1)] → W p l e ({ frames := 0, cells := 0, slots := 0, locals := 0 }) s m args below meth c H locs 0 0 (MQ below (rf_Q D h0 none ρ') args s 0 0 (rf_A h0)) (F0 m 284 ls [])) y := by
    intro H locs ls G hl
    obtain ⟨x1, ρ⟩ := y
    dsimp only at h G hl
    unfold eq_begin_207 at h
    refine lv_bipush (v := (16:Int32)) C.1 C.2.1 dX12_begin_284 (by decide) ?_
    refine lv_aload_n C.1 C.2.1 dX12_begin_286 rfl (lv_at hl 0 rfl) ?_
    refine gf_79 C G dX12_begin_287 ?_
    refine lv_imul C.1 C.2.1 dX12_begin_290 ?_
    refine vt_i h (fun x1_26 h => ?_)
    refine lv_istore_n (lv' := [(1, .int x1_26), (0, .ref h0)]) C.1 C.2.1 dX12_begin_291 rfl hl (by decide) rfl (fun ls hl => ?_)
    exact wq_begin_292 C h G (lv_sub hl [1, 0] rfl)
  refine lp_recE (fun z : (Int32 × rf_S) => ∀ (H : Heap) (locs : List Loc) (ls : Array Slot), rf_G D h0 s z.2 H locs → lv_has ls 4 [(0, .ref h0), (1, .int z.1)] → W p l e ({ frames := 0, cells := 0, slots := 0, locals := 0 }) s m args below meth c H locs 0 0 (MQ below (rf_Q D h0 none ρ') args s 0 0 (rf_A h0)) (F0 m 207 ls [])) (fun z : (Int32 × rf_S) => ∀ (H : Heap) (locs : List Loc) (ls : Array Slot), rf_G D h0 s z.2 H locs → lv_has ls 4 [(0, .ref h0), (1, .int z.1)] → W p l e ({ frames := 0, cells := 0, slots := 0, locals := 0 }) s m args below meth c H locs 0 0 (MQ below (rf_Q D h0 none ρ') args s 0 0 (rf_A h0)) (F0 m 284 ls [])) ?_ _ _ hy hE _ _ _ G hl
  clear hE hy G hl h
  intro z o h hP H locs ls G hl
  obtain ⟨x1, ρ⟩ := z
  dsimp only at h G hl
  unfold lq_begin_207 at h
  refine lv_iload_n C.1 C.2.1 dX12_begin_207 rfl (lv_at hl 1 rfl) ?_
  refine lv_aload_n C.1 C.2.1 dX12_begin_208 rfl (lv_at hl 0 rfl) ?_
  refine gf_55 C G dX12_begin_209 ?_
  refine lv_icmp_ge (tgt := 284) C.1 C.2.1 dX12_begin_212 (by decide) (fun hc => ?_) (fun hc => ?_)
  · rw [if_pos hc] at h
    cases h
    exact hP _ _ _ G (lv_sub hl [0, 1] rfl)
  · rw [if_neg hc] at h
    refine lv_iconst (v := (0:Int32)) C.1 C.2.1 dX12_begin_215 (by decide) ?_
    refine lv_istore_n (lv' := [(2, .int (0:Int32)), (0, .ref h0), (1, .int x1)]) C.1 C.2.1 dX12_begin_216 rfl hl (by decide) rfl (fun ls hl => ?_)
    exact wq_begin_217i207 C h hP G (lv_sub hl [1, 2, 0] rfl)
noncomputable def eq_begin_73 (x1 : Int32) (ρ : rf_S) : Option (rf_S) := bq_begin_207 (0:Int32) ρ
noncomputable def bq_begin_73 (x1 : Int32) (ρ : rf_S) : Option (rf_S) := (lp (fun z : (Int32 × rf_S) => lq_begin_73  z.1 z.2) (x1, ρ)).bind (fun z => eq_begin_73  z.1 z.2)
set_option maxHeartbeats 4000000 in
theorem wq_begin_73 (C : rf_C D p s m args meth c cX12_begin 4 none) {x1 : Int32} {ρ ρ' : rf_S} {H : Heap} {locs : List Loc} {ls : Array Slot} (h : bq_begin_73 x1 ρ = some ρ') (G : rf_G D h0 s ρ H locs) (hl : lv_has ls 4 [(0, .ref h0), (1, .int x1)]) : W p l e ({ frames := 0, cells := 0, slots := 0, locals := 0 }) s m args below meth c H locs 0 0 (MQ below (rf_Q D h0 none ρ') args s 0 0 (rf_A h0)) (F0 m 73 ls []) := by
  unfold bq_begin_73 at h
  obtain ⟨y, hy, h⟩ := bd_some h
  have hE : (fun z : (Int32 × rf_S) => ∀ (H : Heap) (locs : List Loc) (ls : Array Slot), rf_G D h0 s z.2 H locs → lv_has ls 4 [(0, .ref h0), (1, .int z.1)] → W p l e ({ frames := 0, cells := 0, slots := 0, locals := 0 }) s m args below meth c H locs 0 0 (MQ below (rf_Q D h0 none ρ') args s 0 0 (rf_A h0)) (F0 m 205 ls [])) y := by
    intro H locs ls G hl
    obtain ⟨x1, ρ⟩ := y
    dsimp only at h G hl
    unfold eq_begin_73 at h
    refine lv_iconst (v := (0:Int32)) C.1 C.2.1 dX12_begin_205 (by decide) ?_
    refine lv_istore_n (lv' := [(1, .int (0:Int32)), (0, .ref h0)]) C.1 C.2.1 dX12_begin_206 rfl hl (by decide) rfl (fun ls hl => ?_)
    exact wq_begin_207 C h G (lv_sub hl [1, 0] rfl)
  refine lp_recE (fun z : (Int32 × rf_S) => ∀ (H : Heap) (locs : List Loc) (ls : Array Slot), rf_G D h0 s z.2 H locs → lv_has ls 4 [(0, .ref h0), (1, .int z.1)] → W p l e ({ frames := 0, cells := 0, slots := 0, locals := 0 }) s m args below meth c H locs 0 0 (MQ below (rf_Q D h0 none ρ') args s 0 0 (rf_A h0)) (F0 m 73 ls [])) (fun z : (Int32 × rf_S) => ∀ (H : Heap) (locs : List Loc) (ls : Array Slot), rf_G D h0 s z.2 H locs → lv_has ls 4 [(0, .ref h0), (1, .int z.1)] → W p l e ({ frames := 0, cells := 0, slots := 0, locals := 0 }) s m args below meth c H locs 0 0 (MQ below (rf_Q D h0 none ρ') args s 0 0 (rf_A h0)) (F0 m 205 ls [])) ?_ _ _ hy hE _ _ _ G hl
  clear hE hy G hl h
  intro z o h hP H locs ls G hl
  obtain ⟨x1, ρ⟩ := z
  dsimp only at h G hl
  unfold lq_begin_73 at h
  refine lv_iload_n C.1 C.2.1 dX12_begin_73 rfl (lv_at hl 1 rfl) ?_
  refine lv_bipush (v := (8:Int32)) C.1 C.2.1 dX12_begin_74 (by decide) ?_
  refine lv_icmp_ge (tgt := 205) C.1 C.2.1 dX12_begin_76 (by decide) (fun hc => ?_) (fun hc => ?_)
  · rw [if_pos hc] at h
    cases h
    exact hP _ _ _ G (lv_sub hl [0, 1] rfl)
  · rw [if_neg hc] at h
    refine lv_bipush (v := (8:Int32)) C.1 C.2.1 dX12_begin_79 (by decide) ?_
    refine lv_aload_n C.1 C.2.1 dX12_begin_81 rfl (lv_at hl 0 rfl) ?_
    refine gf_79 C G dX12_begin_82 ?_
    refine lv_imul C.1 C.2.1 dX12_begin_85 ?_
    refine lv_iload_n C.1 C.2.1 dX12_begin_86 rfl (lv_at hl 1 rfl) ?_
    refine lv_iadd C.1 C.2.1 dX12_begin_87 ?_
    refine vt_i h (fun x2_7 h => ?_)
    refine lv_istore_n (lv' := [(2, .int x2_7), (0, .ref h0), (1, .int x1)]) C.1 C.2.1 dX12_begin_88 rfl hl (by decide) rfl (fun ls hl => ?_)
    refine lv_iconst (v := (0:Int32)) C.1 C.2.1 dX12_begin_89 (by decide) ?_
    refine lv_istore_n (lv' := [(3, .int (0:Int32)), (2, .int x2_7), (0, .ref h0), (1, .int x1)]) C.1 C.2.1 dX12_begin_90 rfl hl (by decide) rfl (fun ls hl => ?_)
    exact wq_begin_91i73 C h hP G (lv_sub hl [2, 3, 1, 0] rfl)
noncomputable def eq_begin_42 (x1 : Int32) (ρ : rf_S) : Option (rf_S) := bq_begin_73 (0:Int32) ρ
noncomputable def bq_begin_42 (x1 : Int32) (ρ : rf_S) : Option (rf_S) := (lp (fun z : (Int32 × rf_S) => lq_begin_42  z.1 z.2) (x1, ρ)).bind (fun z => eq_begin_42  z.1 z.2)
set_option maxHeartbeats 4000000 in
theorem wq_begin_42 (C : rf_C D p s m args meth c cX12_begin 4 none) {x1 : Int32} {ρ ρ' : rf_S} {H : Heap} {locs : List Loc} {ls : Array Slot} (h : bq_begin_42 x1 ρ = some ρ') (G : rf_G D h0 s ρ H locs) (hl : lv_has ls 4 [(0, .ref h0), (1, .int x1)]) : W p l e ({ frames := 0, cells := 0, slots := 0, locals := 0 }) s m args below meth c H locs 0 0 (MQ below (rf_Q D h0 none ρ') args s 0 0 (rf_A h0)) (F0 m 42 ls []) := by
  unfold bq_begin_42 at h
  obtain ⟨y, hy, h⟩ := bd_some h
  have hE : (fun z : (Int32 × rf_S) => ∀ (H : Heap) (locs : List Loc) (ls : Array Slot), rf_G D h0 s z.2 H locs → lv_has ls 4 [(0, .ref h0), (1, .int z.1)] → W p l e ({ frames := 0, cells := 0, slots := 0, locals := 0 }) s m args below meth c H locs 0 0 (MQ below (rf_Q D h0 none ρ') args s 0 0 (rf_A h0)) (F0 m 71 ls [])) y := by
    intro H locs ls G hl
    obtain ⟨x1, ρ⟩ := y
    dsimp only at h G hl
    unfold eq_begin_42 at h
    refine lv_iconst (v := (0:Int32)) C.1 C.2.1 dX12_begin_71 (by decide) ?_
    refine lv_istore_n (lv' := [(1, .int (0:Int32)), (0, .ref h0)]) C.1 C.2.1 dX12_begin_72 rfl hl (by decide) rfl (fun ls hl => ?_)
    exact wq_begin_73 C h G (lv_sub hl [1, 0] rfl)
  refine lp_recE (fun z : (Int32 × rf_S) => ∀ (H : Heap) (locs : List Loc) (ls : Array Slot), rf_G D h0 s z.2 H locs → lv_has ls 4 [(0, .ref h0), (1, .int z.1)] → W p l e ({ frames := 0, cells := 0, slots := 0, locals := 0 }) s m args below meth c H locs 0 0 (MQ below (rf_Q D h0 none ρ') args s 0 0 (rf_A h0)) (F0 m 42 ls [])) (fun z : (Int32 × rf_S) => ∀ (H : Heap) (locs : List Loc) (ls : Array Slot), rf_G D h0 s z.2 H locs → lv_has ls 4 [(0, .ref h0), (1, .int z.1)] → W p l e ({ frames := 0, cells := 0, slots := 0, locals := 0 }) s m args below meth c H locs 0 0 (MQ below (rf_Q D h0 none ρ') args s 0 0 (rf_A h0)) (F0 m 71 ls [])) ?_ _ _ hy hE _ _ _ G hl
  clear hE hy G hl h
  intro z o h hP H locs ls G hl
  obtain ⟨x1, ρ⟩ := z
  dsimp only at h G hl
  unfold lq_begin_42 at h
  refine lv_iload_n C.1 C.2.1 dX12_begin_42 rfl (lv_at hl 1 rfl) ?_
  refine lv_sipush (v := (8192:Int32)) C.1 C.2.1 dX12_begin_43 (by decide) ?_
  refine lv_icmp_ge (tgt := 71) C.1 C.2.1 dX12_begin_46 (by decide) (fun hc => ?_) (fun hc => ?_)
  · rw [if_pos hc] at h
    cases h
    exact hP _ _ _ G (lv_sub hl [0, 1] rfl)
  · rw [if_neg hc] at h
    refine lv_aload_n C.1 C.2.1 dX12_begin_49 rfl (lv_at hl 0 rfl) ?_
    refine gf_84 C G dX12_begin_50 ?_
    refine lv_sipush (v := (8192:Int32)) C.1 C.2.1 dX12_begin_53 (by decide) ?_
    refine lv_aload_n C.1 C.2.1 dX12_begin_56 rfl (lv_at hl 0 rfl) ?_
    refine gf_79 C G dX12_begin_57 ?_
    refine lv_imul C.1 C.2.1 dX12_begin_60 ?_
    refine lv_iload_n C.1 C.2.1 dX12_begin_61 rfl (lv_at hl 1 rfl) ?_
    refine lv_iadd C.1 C.2.1 dX12_begin_62 ?_
    refine lv_iconst (v := (0:Int32)) C.1 C.2.1 dX12_begin_63 (by decide) ?_
    obtain ⟨hi, h⟩ := ix_some h
    refine rf_iast C G 52 rfl (by decide) rfl rfl hi dX12_begin_64 (fun H locs G => ?_)
    refine rf_nm G h (fun ρ_5 G h => ?_)
    refine vl_ex h (fun x1_6 ey h => ?_)
    refine lv_iinc (v := x1_6) (lv' := [(1, .int x1_6), (0, .ref h0)]) C.1 C.2.1 dX12_begin_65 hl (k := 1) rfl (by rw [ey]; rfl) (by decide) rfl (fun ls hl => ?_)
    refine lv_goto (tgt := 42) C.1 C.2.1 dX12_begin_68 (by decide) ?_
    cases h
    exact hP _ _ _ G (lv_sub hl [1, 0] rfl)
noncomputable def bq_begin_0  (ρ : rf_S) : Option (rf_S) := ix (ρ.1 0 79) 2 (vl (rf_w ρ 48 (ρ.1 0 79).toNatClampNeg (0:Int32)) (fun ρ_1 => ix (ρ_1.1 0 79) 2 (vl (rf_w ρ_1 49 (ρ_1.1 0 79).toNatClampNeg (0:Int32)) (fun ρ_2 => ix (ρ_2.1 0 79) 2 (vl (rf_w ρ_2 50 (ρ_2.1 0 79).toNatClampNeg (0:Int32)) (fun ρ_3 => ix (ρ_3.1 0 79) 2 (vl (rf_w ρ_3 51 (ρ_3.1 0 79).toNatClampNeg (vp_nar .boolean (0:Int32))) (fun ρ_4 => bq_begin_42 (0:Int32) ρ_4))))))))
set_option maxHeartbeats 4000000 in
theorem wq_begin_0 (C : rf_C D p s m args meth c cX12_begin 4 none) {ρ ρ' : rf_S} {H : Heap} {locs : List Loc} {ls : Array Slot} (h : bq_begin_0 ρ = some ρ') (G : rf_G D h0 s ρ H locs) (hl : lv_has ls 4 [(0, .ref h0)]) : W p l e ({ frames := 0, cells := 0, slots := 0, locals := 0 }) s m args below meth c H locs 0 0 (MQ below (rf_Q D h0 none ρ') args s 0 0 (rf_A h0)) (F0 m 0 ls []) := by
  unfold bq_begin_0 at h
  refine lv_aload_n C.1 C.2.1 dX12_begin_0 rfl (lv_at hl 0 rfl) ?_
  refine gf_80 C G dX12_begin_1 ?_
  refine lv_aload_n C.1 C.2.1 dX12_begin_4 rfl (lv_at hl 0 rfl) ?_
  refine gf_79 C G dX12_begin_5 ?_
  refine lv_iconst (v := (0:Int32)) C.1 C.2.1 dX12_begin_8 (by decide) ?_
  obtain ⟨hi, h⟩ := ix_some h
  refine rf_iast C G 48 rfl (by decide) rfl rfl hi dX12_begin_9 (fun H locs G => ?_)
  refine rf_nm G h (fun ρ_1 G h => ?_)
  refine lv_aload_n C.1 C.2.1 dX12_begin_10 rfl (lv_at hl 0 rfl) ?_
  refine gf_81 C G dX12_begin_11 ?_
  refine lv_aload_n C.1 C.2.1 dX12_begin_14 rfl (lv_at hl 0 rfl) ?_
  refine gf_79 C G dX12_begin_15 ?_
  refine lv_iconst (v := (0:Int32)) C.1 C.2.1 dX12_begin_18 (by decide) ?_
  obtain ⟨hi, h⟩ := ix_some h
  refine rf_iast C G 49 rfl (by decide) rfl rfl hi dX12_begin_19 (fun H locs G => ?_)
  refine rf_nm G h (fun ρ_2 G h => ?_)
  refine lv_aload_n C.1 C.2.1 dX12_begin_20 rfl (lv_at hl 0 rfl) ?_
  refine gf_82 C G dX12_begin_21 ?_
  refine lv_aload_n C.1 C.2.1 dX12_begin_24 rfl (lv_at hl 0 rfl) ?_
  refine gf_79 C G dX12_begin_25 ?_
  refine lv_iconst (v := (0:Int32)) C.1 C.2.1 dX12_begin_28 (by decide) ?_
  obtain ⟨hi, h⟩ := ix_some h
  refine rf_iast C G 50 rfl (by decide) rfl rfl hi dX12_begin_29 (fun H locs G => ?_)
  refine rf_nm G h (fun ρ_3 G h => ?_)
  refine lv_aload_n C.1 C.2.1 dX12_begin_30 rfl (lv_at hl 0 rfl) ?_
  refine gf_83 C G dX12_begin_31 ?_
  refine lv_aload_n C.1 C.2.1 dX12_begin_34 rfl (lv_at hl 0 rfl) ?_
  refine gf_79 C G dX12_begin_35 ?_
  refine lv_iconst (v := (0:Int32)) C.1 C.2.1 dX12_begin_38 (by decide) ?_
  obtain ⟨hi, h⟩ := ix_some h
  refine rf_zast C G 51 rfl (by decide) rfl rfl hi dX12_begin_39 (fun H locs G => ?_)
  refine rf_nm G h (fun ρ_4 G h => ?_)
  refine lv_iconst (v := (0:Int32)) C.1 C.2.1 dX12_begin_40 (by decide) ?_
  refine lv_istore_n (lv' := [(1, .int (0:Int32)), (0, .ref h0)]) C.1 C.2.1 dX12_begin_41 rfl hl (by decide) rfl (fun ls hl => ?_)
  exact wq_begin_42 C h G (lv_sub hl [1, 0] rfl)
noncomputable def fq_begin  (ρ : rf_S) : Option (rf_S) := bq_begin_0 ρ
theorem kq_begin (l : Launch) (D : rf_D) (h0 : Nat) {ρ ρ' : rf_S} (h : fq_begin ρ = some ρ') : rf_Met l D h0 yX12_begin cX12_begin 4 none 0 0 [.ref h0] ρ none ρ' :=
  rf_of rfl cc_begin (Nat.le_of_ble_eq_true rfl) (fun p e s m args below meth c ls C G hl => wq_begin_0 C h G hl)
abbrev cX12_boot : ByteArray := prog_14_method_61_code
def yX12_boot : MethodName := ⟨RX12, "boot", "()I"⟩
theorem dX12_boot_0 : decode cX12_boot 0 = .ok (.aload_n 0, 1) := by decide +kernel
theorem dX12_boot_1 : decode cX12_boot 1 = .ok (.getfield 528, 3) := by decide +kernel
theorem dX12_boot_4 : decode cX12_boot 4 = .ok (.ifCond .ne 23, 3) := by decide +kernel
theorem dX12_boot_7 : decode cX12_boot 7 = .ok (.aload_n 0, 1) := by decide +kernel
theorem dX12_boot_8 : decode cX12_boot 8 = .ok (.getfield 104, 3) := by decide +kernel
theorem dX12_boot_11 : decode cX12_boot 11 = .ok (.bipush 8, 2) := by decide +kernel
theorem dX12_boot_13 : decode cX12_boot 13 = .ok (.iaload, 1) := by decide +kernel
theorem dX12_boot_14 : decode cX12_boot 14 = .ok (.ifCond .eq 13, 3) := by decide +kernel
theorem dX12_boot_17 : decode cX12_boot 17 = .ok (.aload_n 0, 1) := by decide +kernel
theorem dX12_boot_18 : decode cX12_boot 18 = .ok (.getfield 104, 3) := by decide +kernel
theorem dX12_boot_21 : decode cX12_boot 21 = .ok (.bipush 9, 2) := by decide +kernel
theorem dX12_boot_23 : decode cX12_boot 23 = .ok (.iaload, 1) := by decide +kernel
theorem dX12_boot_24 : decode cX12_boot 24 = .ok (.ifCond .ne 6, 3) := by decide +kernel
theorem dX12_boot_27 : decode cX12_boot 27 = .ok (.bipush (-3), 2) := by decide +kernel
theorem dX12_boot_29 : decode cX12_boot 29 = .ok (.ireturn, 1) := by decide +kernel
theorem dX12_boot_30 : decode cX12_boot 30 = .ok (.aload_n 0, 1) := by decide +kernel
theorem dX12_boot_31 : decode cX12_boot 31 = .ok (.invokevirtual 531, 3) := by decide +kernel
theorem dX12_boot_34 : decode cX12_boot 34 = .ok (.ifCond .ne 11, 3) := by decide +kernel
theorem dX12_boot_37 : decode cX12_boot 37 = .ok (.bipush (-100), 2) := by decide +kernel
theorem dX12_boot_39 : decode cX12_boot 39 = .ok (.aload_n 0, 1) := by decide +kernel
theorem dX12_boot_40 : decode cX12_boot 40 = .ok (.getfield 504, 3) := by decide +kernel
theorem dX12_boot_43 : decode cX12_boot 43 = .ok (.isub, 1) := by decide +kernel
theorem dX12_boot_44 : decode cX12_boot 44 = .ok (.ireturn, 1) := by decide +kernel
theorem dX12_boot_45 : decode cX12_boot 45 = .ok (.iconst 0, 1) := by decide +kernel
theorem dX12_boot_46 : decode cX12_boot 46 = .ok (.istore_n 1, 1) := by decide +kernel
theorem dX12_boot_47 : decode cX12_boot 47 = .ok (.iload_n 1, 1) := by decide +kernel
theorem dX12_boot_48 : decode cX12_boot 48 = .ok (.aload_n 0, 1) := by decide +kernel
theorem dX12_boot_49 : decode cX12_boot 49 = .ok (.getfield 260, 3) := by decide +kernel
theorem dX12_boot_52 : decode cX12_boot 52 = .ok (.sipush 196, 3) := by decide +kernel
theorem dX12_boot_55 : decode cX12_boot 55 = .ok (.iaload, 1) := by decide +kernel
theorem dX12_boot_56 : decode cX12_boot 56 = .ok (.if_icmp .ge 42, 3) := by decide +kernel
theorem dX12_boot_59 : decode cX12_boot 59 = .ok (.aload_n 0, 1) := by decide +kernel
theorem dX12_boot_60 : decode cX12_boot 60 = .ok (.getfield 104, 3) := by decide +kernel
theorem dX12_boot_63 : decode cX12_boot 63 = .ok (.iload_n 1, 1) := by decide +kernel
theorem dX12_boot_64 : decode cX12_boot 64 = .ok (.iaload, 1) := by decide +kernel
theorem dX12_boot_65 : decode cX12_boot 65 = .ok (.ifCond .eq 22, 3) := by decide +kernel
theorem dX12_boot_68 : decode cX12_boot 68 = .ok (.aload_n 0, 1) := by decide +kernel
theorem dX12_boot_69 : decode cX12_boot 69 = .ok (.getfield 104, 3) := by decide +kernel
theorem dX12_boot_72 : decode cX12_boot 72 = .ok (.iload_n 1, 1) := by decide +kernel
theorem dX12_boot_73 : decode cX12_boot 73 = .ok (.iaload, 1) := by decide +kernel
theorem dX12_boot_74 : decode cX12_boot 74 = .ok (.aload_n 0, 1) := by decide +kernel
theorem dX12_boot_75 : decode cX12_boot 75 = .ok (.getfield 260, 3) := by decide +kernel
theorem dX12_boot_78 : decode cX12_boot 78 = .ok (.iconst 3, 1) := by decide +kernel
theorem dX12_boot_79 : decode cX12_boot 79 = .ok (.iload_n 1, 1) := by decide +kernel
theorem dX12_boot_80 : decode cX12_boot 80 = .ok (.imul, 1) := by decide +kernel
theorem dX12_boot_81 : decode cX12_boot 81 = .ok (.iconst 1, 1) := by decide +kernel
theorem dX12_boot_82 : decode cX12_boot 82 = .ok (.iadd, 1) := by decide +kernel
theorem dX12_boot_83 : decode cX12_boot 83 = .ok (.iaload, 1) := by decide +kernel
theorem dX12_boot_84 : decode cX12_boot 84 = .ok (.if_icmp .le 8, 3) := by decide +kernel
theorem dX12_boot_87 : decode cX12_boot 87 = .ok (.bipush (-20), 2) := by decide +kernel
theorem dX12_boot_89 : decode cX12_boot 89 = .ok (.iload_n 1, 1) := by decide +kernel
theorem dX12_boot_90 : decode cX12_boot 90 = .ok (.isub, 1) := by decide +kernel
theorem dX12_boot_91 : decode cX12_boot 91 = .ok (.ireturn, 1) := by decide +kernel
theorem dX12_boot_92 : decode cX12_boot 92 = .ok (.iinc 1 1, 3) := by decide +kernel
theorem dX12_boot_95 : decode cX12_boot 95 = .ok (.goto (-48), 3) := by decide +kernel
theorem dX12_boot_98 : decode cX12_boot 98 = .ok (.aload_n 0, 1) := by decide +kernel
theorem dX12_boot_99 : decode cX12_boot 99 = .ok (.getfield 535, 3) := by decide +kernel
theorem dX12_boot_102 : decode cX12_boot 102 = .ok (.bipush 40, 2) := by decide +kernel
theorem dX12_boot_104 : decode cX12_boot 104 = .ok (.if_icmp .ne 6, 3) := by decide +kernel
theorem dX12_boot_107 : decode cX12_boot 107 = .ok (.bipush (-4), 2) := by decide +kernel
theorem dX12_boot_109 : decode cX12_boot 109 = .ok (.ireturn, 1) := by decide +kernel
theorem dX12_boot_110 : decode cX12_boot 110 = .ok (.aload_n 0, 1) := by decide +kernel
theorem dX12_boot_111 : decode cX12_boot 111 = .ok (.invokevirtual 538, 3) := by decide +kernel
theorem dX12_boot_114 : decode cX12_boot 114 = .ok (.aload_n 0, 1) := by decide +kernel
theorem dX12_boot_115 : decode cX12_boot 115 = .ok (.invokevirtual 541, 3) := by decide +kernel
theorem dX12_boot_118 : decode cX12_boot 118 = .ok (.aload_n 0, 1) := by decide +kernel
theorem dX12_boot_119 : decode cX12_boot 119 = .ok (.dup, 1) := by decide +kernel
theorem dX12_boot_120 : decode cX12_boot 120 = .ok (.getfield 535, 3) := by decide +kernel
theorem dX12_boot_123 : decode cX12_boot 123 = .ok (.iconst 1, 1) := by decide +kernel
theorem dX12_boot_124 : decode cX12_boot 124 = .ok (.iadd, 1) := by decide +kernel
theorem dX12_boot_125 : decode cX12_boot 125 = .ok (.putfield 535, 3) := by decide +kernel
theorem dX12_boot_128 : decode cX12_boot 128 = .ok (.aload_n 0, 1) := by decide +kernel
theorem dX12_boot_129 : decode cX12_boot 129 = .ok (.iconst 1, 1) := by decide +kernel
theorem dX12_boot_130 : decode cX12_boot 130 = .ok (.putfield 528, 3) := by decide +kernel
theorem dX12_boot_133 : decode cX12_boot 133 = .ok (.aload_n 0, 1) := by decide +kernel
theorem dX12_boot_134 : decode cX12_boot 134 = .ok (.iconst 0, 1) := by decide +kernel
theorem dX12_boot_135 : decode cX12_boot 135 = .ok (.putfield 544, 3) := by decide +kernel
theorem dX12_boot_138 : decode cX12_boot 138 = .ok (.aload_n 0, 1) := by decide +kernel
theorem dX12_boot_139 : decode cX12_boot 139 = .ok (.iconst 0, 1) := by decide +kernel
theorem dX12_boot_140 : decode cX12_boot 140 = .ok (.putfield 547, 3) := by decide +kernel
theorem dX12_boot_143 : decode cX12_boot 143 = .ok (.aload_n 0, 1) := by decide +kernel
theorem dX12_boot_144 : decode cX12_boot 144 = .ok (.iconst 0, 1) := by decide +kernel
theorem dX12_boot_145 : decode cX12_boot 145 = .ok (.putfield 525, 3) := by decide +kernel
theorem dX12_boot_148 : decode cX12_boot 148 = .ok (.aload_n 0, 1) := by decide +kernel
theorem dX12_boot_149 : decode cX12_boot 149 = .ok (.invokevirtual 550, 3) := by decide +kernel
theorem dX12_boot_152 : decode cX12_boot 152 = .ok (.iconst 0, 1) := by decide +kernel
theorem dX12_boot_153 : decode cX12_boot 153 = .ok (.istore_n 1, 1) := by decide +kernel
theorem dX12_boot_154 : decode cX12_boot 154 = .ok (.iload_n 1, 1) := by decide +kernel
theorem dX12_boot_155 : decode cX12_boot 155 = .ok (.bipush 8, 2) := by decide +kernel
theorem dX12_boot_157 : decode cX12_boot 157 = .ok (.if_icmp .ge 16, 3) := by decide +kernel
theorem dX12_boot_160 : decode cX12_boot 160 = .ok (.aload_n 0, 1) := by decide +kernel
theorem dX12_boot_161 : decode cX12_boot 161 = .ok (.getfield 152, 3) := by decide +kernel
theorem dX12_boot_164 : decode cX12_boot 164 = .ok (.iload_n 1, 1) := by decide +kernel
theorem dX12_boot_165 : decode cX12_boot 165 = .ok (.iconst 0, 1) := by decide +kernel
theorem dX12_boot_166 : decode cX12_boot 166 = .ok (.iastore, 1) := by decide +kernel
theorem dX12_boot_167 : decode cX12_boot 167 = .ok (.iinc 1 1, 3) := by decide +kernel
theorem dX12_boot_170 : decode cX12_boot 170 = .ok (.goto (-16), 3) := by decide +kernel
theorem dX12_boot_173 : decode cX12_boot 173 = .ok (.iconst 0, 1) := by decide +kernel
theorem dX12_boot_174 : decode cX12_boot 174 = .ok (.istore_n 1, 1) := by decide +kernel
theorem dX12_boot_175 : decode cX12_boot 175 = .ok (.iload_n 1, 1) := by decide +kernel
theorem dX12_boot_176 : decode cX12_boot 176 = .ok (.bipush 64, 2) := by decide +kernel
theorem dX12_boot_178 : decode cX12_boot 178 = .ok (.if_icmp .ge 33, 3) := by decide +kernel
theorem dX12_boot_181 : decode cX12_boot 181 = .ok (.aload_n 0, 1) := by decide +kernel
theorem dX12_boot_182 : decode cX12_boot 182 = .ok (.getfield 143, 3) := by decide +kernel
theorem dX12_boot_185 : decode cX12_boot 185 = .ok (.iload_n 1, 1) := by decide +kernel
theorem dX12_boot_186 : decode cX12_boot 186 = .ok (.aload_n 0, 1) := by decide +kernel
theorem dX12_boot_187 : decode cX12_boot 187 = .ok (.getfield 245, 3) := by decide +kernel
theorem dX12_boot_190 : decode cX12_boot 190 = .ok (.iload_n 1, 1) := by decide +kernel
theorem dX12_boot_191 : decode cX12_boot 191 = .ok (.iaload, 1) := by decide +kernel
theorem dX12_boot_192 : decode cX12_boot 192 = .ok (.iastore, 1) := by decide +kernel
theorem dX12_boot_193 : decode cX12_boot 193 = .ok (.aload_n 0, 1) := by decide +kernel
theorem dX12_boot_194 : decode cX12_boot 194 = .ok (.getfield 146, 3) := by decide +kernel
theorem dX12_boot_197 : decode cX12_boot 197 = .ok (.iload_n 1, 1) := by decide +kernel
theorem dX12_boot_198 : decode cX12_boot 198 = .ok (.aload_n 0, 1) := by decide +kernel
theorem dX12_boot_199 : decode cX12_boot 199 = .ok (.getfield 248, 3) := by decide +kernel
theorem dX12_boot_202 : decode cX12_boot 202 = .ok (.iload_n 1, 1) := by decide +kernel
theorem dX12_boot_203 : decode cX12_boot 203 = .ok (.iaload, 1) := by decide +kernel
theorem dX12_boot_204 : decode cX12_boot 204 = .ok (.iastore, 1) := by decide +kernel
theorem dX12_boot_205 : decode cX12_boot 205 = .ok (.iinc 1 1, 3) := by decide +kernel
theorem dX12_boot_208 : decode cX12_boot 208 = .ok (.goto (-33), 3) := by decide +kernel
theorem dX12_boot_211 : decode cX12_boot 211 = .ok (.aload_n 0, 1) := by decide +kernel
theorem dX12_boot_212 : decode cX12_boot 212 = .ok (.getfield 513, 3) := by decide +kernel
theorem dX12_boot_215 : decode cX12_boot 215 = .ok (.ireturn, 1) := by decide +kernel
theorem cc_boot : Cond.code yX12_boot cX12_boot 2 (some .int) ∈ rf_tb := rf_at 2063 (by decide +kernel) (by decide +kernel)
noncomputable def lq_boot_47 (x1 : Int32) (ρ : rf_S) : Option ((Int32 × rf_S) ⊕ ((Int32 × rf_S) ⊕ (Int32 × rf_S))) := ix (196:Int32) 200 ((if (ρ.1 79 (196:Int32).toNatClampNeg) ≤ x1 then some (.inr (.inr (x1, ρ))) else ix x1 10 ((if (ρ.1 27 x1.toNatClampNeg) = 0 then some (.inr (.inl (((-20:Int32) - x1), ρ))) else ix x1 10 (ix (((3:Int32) * x1) + (1:Int32)) 200 ((if (ρ.1 27 x1.toNatClampNeg) ≤ (ρ.1 79 (((3:Int32) * x1) + (1:Int32)).toNatClampNeg) then vl (x1 + (1:Int32)) (fun x1_3 => some (.inl (x1_3, ρ))) else some (.inr (.inl (((-20:Int32) - x1), ρ))))))))))
noncomputable def lq_boot_154 (x1 : Int32) (ρ : rf_S) : Option ((Int32 × rf_S) ⊕ (Int32 × rf_S)) := (if (8:Int32) ≤ x1 then some (.inr (x1, ρ)) else ix x1 8 (vl (rf_w ρ 43 x1.toNatClampNeg (0:Int32)) (fun ρ_12 => vl (x1 + (1:Int32)) (fun x1_13 => some (.inl (x1_13, ρ_12))))))
noncomputable def lq_boot_175 (x1 : Int32) (ρ : rf_S) : Option ((Int32 × rf_S) ⊕ (Int32 × rf_S)) := (if (64:Int32) ≤ x1 then some (.inr (x1, ρ)) else ix x1 128 (ix x1 64 (vl (rf_w ρ 40 x1.toNatClampNeg (ρ.1 74 x1.toNatClampNeg)) (fun ρ_14 => ix x1 128 (ix x1 64 (vl (rf_w ρ_14 41 x1.toNatClampNeg (ρ_14.1 75 x1.toNatClampNeg)) (fun ρ_15 => vl (x1 + (1:Int32)) (fun x1_16 => some (.inl (x1_16, ρ_15))))))))))
noncomputable def eq_boot_175 (x1 : Int32) (ρ : rf_S) : Option (Int32 × rf_S) := some ((ρ.1 0 55), ρ)
noncomputable def bq_boot_175 (x1 : Int32) (ρ : rf_S) : Option (Int32 × rf_S) := (lp (fun z : (Int32 × rf_S) => lq_boot_175  z.1 z.2) (x1, ρ)).bind (fun z => eq_boot_175  z.1 z.2)
set_option maxHeartbeats 4000000 in
theorem wq_boot_175 (C : rf_C D p s m args meth c cX12_boot 2 (some .int)) {r : Int32} {x1 : Int32} {ρ ρ' : rf_S} {H : Heap} {locs : List Loc} {ls : Array Slot} (h : bq_boot_175 x1 ρ = some (r, ρ')) (G : rf_G D h0 s ρ H locs) (hl : lv_has ls 2 [(0, .ref h0), (1, .int x1)]) : W p l e ({ frames := 4, cells := 0, slots := 0, locals := 100 }) s m args below meth c H locs 0 0 (MQ below (rf_Q D h0 (some (.int r)) ρ') args s 0 0 (rf_A h0)) (F0 m 175 ls []) := by
  unfold bq_boot_175 at h
  obtain ⟨y, hy, h⟩ := bd_some h
  have hE : (fun z : (Int32 × rf_S) => ∀ (H : Heap) (locs : List Loc) (ls : Array Slot), rf_G D h0 s z.2 H locs → lv_has ls 2 [(0, .ref h0), (1, .int z.1)] → W p l e ({ frames := 4, cells := 0, slots := 0, locals := 100 }) s m args below meth c H locs 0 0 (MQ below (rf_Q D h0 (some (.int r)) ρ') args s 0 0 (rf_A h0)) (F0 m 211 ls [])) y := by
    intro H locs ls G hl
    obtain ⟨x1, ρ⟩ := y
    dsimp only at h G hl
    unfold eq_boot_175 at h
    refine lv_aload_n C.1 C.2.1 dX12_boot_211 rfl (lv_at hl 0 rfl) ?_
    refine gf_55 C G dX12_boot_212 ?_
    exact rf_iret C G h dX12_boot_215
  refine lp_recE (fun z : (Int32 × rf_S) => ∀ (H : Heap) (locs : List Loc) (ls : Array Slot), rf_G D h0 s z.2 H locs → lv_has ls 2 [(0, .ref h0), (1, .int z.1)] → W p l e ({ frames := 4, cells := 0, slots := 0, locals := 100 }) s m args below meth c H locs 0 0 (MQ below (rf_Q D h0 (some (.int r)) ρ') args s 0 0 (rf_A h0)) (F0 m 175 ls [])) (fun z : (Int32 × rf_S) => ∀ (H : Heap) (locs : List Loc) (ls : Array Slot), rf_G D h0 s z.2 H locs → lv_has ls 2 [(0, .ref h0), (1, .int z.1)] → W p l e ({ frames := 4, cells := 0, slots := 0, locals := 100 }) s m args below meth c H locs 0 0 (MQ below (rf_Q D h0 (some (.int r)) ρ') args s 0 0 (rf_A h0)) (F0 m 211 ls [])) ?_ _ _ hy hE _ _ _ G hl
  clear hE hy G hl h
  intro z o h hP H locs ls G hl
  obtain ⟨x1, ρ⟩ := z
  dsimp only at h G hl
  unfold lq_boot_175 at h
  refine lv_iload_n C.1 C.2.1 dX12_boot_175 rfl (lv_at hl 1 rfl) ?_
  refine lv_bipush (v := (64:Int32)) C.1 C.2.1 dX12_boot_176 (by decide) ?_
  refine lv_icmp_ge (tgt := 211) C.1 C.2.1 dX12_boot_178 (by decide) (fun hc => ?_) (fun hc => ?_)
  · rw [if_pos hc] at h
    cases h
    exact hP _ _ _ G (lv_sub hl [0, 1] rfl)
  · rw [if_neg hc] at h
    refine lv_aload_n C.1 C.2.1 dX12_boot_181 rfl (lv_at hl 0 rfl) ?_
    refine gf_70 C G dX12_boot_182 ?_
    refine lv_iload_n C.1 C.2.1 dX12_boot_185 rfl (lv_at hl 1 rfl) ?_
    refine lv_aload_n C.1 C.2.1 dX12_boot_186 rfl (lv_at hl 0 rfl) ?_
    refine gf_106 C G dX12_boot_187 ?_
    refine lv_iload_n C.1 C.2.1 dX12_boot_190 rfl (lv_at hl 1 rfl) ?_
    obtain ⟨hi, h⟩ := ix_some h
    refine rf_iald C G 74 rfl (by decide) rfl rfl hi dX12_boot_191 ?_
    obtain ⟨hi, h⟩ := ix_some h
    refine rf_iast C G 40 rfl (by decide) rfl rfl hi dX12_boot_192 (fun H locs G => ?_)
    refine rf_nm G h (fun ρ_14 G h => ?_)
    refine lv_aload_n C.1 C.2.1 dX12_boot_193 rfl (lv_at hl 0 rfl) ?_
    refine gf_71 C G dX12_boot_194 ?_
    refine lv_iload_n C.1 C.2.1 dX12_boot_197 rfl (lv_at hl 1 rfl) ?_
    refine lv_aload_n C.1 C.2.1 dX12_boot_198 rfl (lv_at hl 0 rfl) ?_
    refine gf_107 C G dX12_boot_199 ?_
    refine lv_iload_n C.1 C.2.1 dX12_boot_202 rfl (lv_at hl 1 rfl) ?_
    obtain ⟨hi, h⟩ := ix_some h
    refine rf_iald C G 75 rfl (by decide) rfl rfl hi dX12_boot_203 ?_
    obtain ⟨hi, h⟩ := ix_some h
    refine rf_iast C G 41 rfl (by decide) rfl rfl hi dX12_boot_204 (fun H locs G => ?_)
    refine rf_nm G h (fun ρ_15 G h => ?_)
    refine vl_ex h (fun x1_16 ey h => ?_)
    refine lv_iinc (v := x1_16) (lv' := [(1, .int x1_16), (0, .ref h0)]) C.1 C.2.1 dX12_boot_205 hl (k := 1) rfl (by rw [ey]; rfl) (by decide) rfl (fun ls hl => ?_)
    refine lv_goto (tgt := 175) C.1 C.2.1 dX12_boot_208 (by decide) ?_
    cases h
    exact hP _ _ _ G (lv_sub hl [1, 0] rfl)
noncomputable def eq_boot_154 (x1 : Int32) (ρ : rf_S) : Option (Int32 × rf_S) := bq_boot_175 (0:Int32) ρ
noncomputable def bq_boot_154 (x1 : Int32) (ρ : rf_S) : Option (Int32 × rf_S) := (lp (fun z : (Int32 × rf_S) => lq_boot_154  z.1 z.2) (x1, ρ)).bind (fun z => eq_boot_154  z.1 z.2)
set_option maxHeartbeats 4000000 in
theorem wq_boot_154 (C : rf_C D p s m args meth c cX12_boot 2 (some .int)) {r : Int32} {x1 : Int32} {ρ ρ' : rf_S} {H : Heap} {locs : List Loc} {ls : Array Slot} (h : bq_boot_154 x1 ρ = some (r, ρ')) (G : rf_G D h0 s ρ H locs) (hl : lv_has ls 2 [(0, .ref h0), (1, .int x1)]) : W p l e ({ frames := 4, cells := 0, slots := 0, locals := 100 }) s m args below meth c H locs 0 0 (MQ below (rf_Q D h0 (some (.int r)) ρ') args s 0 0 (rf_A h0)) (F0 m 154 ls []) := by
  unfold bq_boot_154 at h
  obtain ⟨y, hy, h⟩ := bd_some h
  have hE : (fun z : (Int32 × rf_S) => ∀ (H : Heap) (locs : List Loc) (ls : Array Slot), rf_G D h0 s z.2 H locs → lv_has ls 2 [(0, .ref h0), (1, .int z.1)] → W p l e ({ frames := 4, cells := 0, slots := 0, locals := 100 }) s m args below meth c H locs 0 0 (MQ below (rf_Q D h0 (some (.int r)) ρ') args s 0 0 (rf_A h0)) (F0 m 173 ls [])) y := by
    intro H locs ls G hl
    obtain ⟨x1, ρ⟩ := y
    dsimp only at h G hl
    unfold eq_boot_154 at h
    refine lv_iconst (v := (0:Int32)) C.1 C.2.1 dX12_boot_173 (by decide) ?_
    refine lv_istore_n (lv' := [(1, .int (0:Int32)), (0, .ref h0)]) C.1 C.2.1 dX12_boot_174 rfl hl (by decide) rfl (fun ls hl => ?_)
    exact wq_boot_175 C h G (lv_sub hl [1, 0] rfl)
  refine lp_recE (fun z : (Int32 × rf_S) => ∀ (H : Heap) (locs : List Loc) (ls : Array Slot), rf_G D h0 s z.2 H locs → lv_has ls 2 [(0, .ref h0), (1, .int z.1)] → W p l e ({ frames := 4, cells := 0, slots := 0, locals := 100 }) s m args below meth c H locs 0 0 (MQ below (rf_Q D h0 (some (.int r)) ρ') args s 0 0 (rf_A h0)) (F0 m 154 ls [])) (fun z : (Int32 × rf_S) => ∀ (H : Heap) (locs : List Loc) (ls : Array Slot), rf_G D h0 s z.2 H locs → lv_has ls 2 [(0, .ref h0), (1, .int z.1)] → W p l e ({ frames := 4, cells := 0, slots := 0, locals := 100 }) s m args below meth c H locs 0 0 (MQ below (rf_Q D h0 (some (.int r)) ρ') args s 0 0 (rf_A h0)) (F0 m 173 ls [])) ?_ _ _ hy hE _ _ _ G hl
  clear hE hy G hl h
  intro z o h hP H locs ls G hl
  obtain ⟨x1, ρ⟩ := z
  dsimp only at h G hl
  unfold lq_boot_154 at h
  refine lv_iload_n C.1 C.2.1 dX12_boot_154 rfl (lv_at hl 1 rfl) ?_
  refine lv_bipush (v := (8:Int32)) C.1 C.2.1 dX12_boot_155 (by decide) ?_
  refine lv_icmp_ge (tgt := 173) C.1 C.2.1 dX12_boot_157 (by decide) (fun hc => ?_) (fun hc => ?_)
  · rw [if_pos hc] at h
    cases h
    exact hP _ _ _ G (lv_sub hl [0, 1] rfl)
  · rw [if_neg hc] at h
    refine lv_aload_n C.1 C.2.1 dX12_boot_160 rfl (lv_at hl 0 rfl) ?_
    refine gf_73 C G dX12_boot_161 ?_
    refine lv_iload_n C.1 C.2.1 dX12_boot_164 rfl (lv_at hl 1 rfl) ?_
    refine lv_iconst (v := (0:Int32)) C.1 C.2.1 dX12_boot_165 (by decide) ?_
    obtain ⟨hi, h⟩ := ix_some h
    refine rf_iast C G 43 rfl (by decide) rfl rfl hi dX12_boot_166 (fun H locs G => ?_)
    refine rf_nm G h (fun ρ_12 G h => ?_)
    refine vl_ex h (fun x1_13 ey h => ?_)
    refine lv_iinc (v := x1_13) (lv' := [(1, .int x1_13), (0, .ref h0)]) C.1 C.2.1 dX12_boot_167 hl (k := 1) rfl (by rw [ey]; rfl) (by decide) rfl (fun ls hl => ?_)
    refine lv_goto (tgt := 154) C.1 C.2.1 dX12_boot_170 (by decide) ?_
    cases h
    exact hP _ _ _ G (lv_sub hl [1, 0] rfl)
noncomputable def eq_boot_47 (x1 : Int32) (ρ : rf_S) : Option (Int32 × rf_S) := (if (ρ.1 0 52) = (40:Int32) then some ((-4:Int32), ρ) else bd1 (fq_takeConfig ρ) (fun ρ_4 => bd1 (fq_measureAll ρ_4) (fun ρ_5 => vl (rf_w ρ_5 0 52 ((ρ_5.1 0 52) + (1:Int32))) (fun ρ_6 => vl (rf_w ρ_6 0 51 (1:Int32)) (fun ρ_7 => vl (rf_w ρ_7 0 54 (0:Int32)) (fun ρ_8 => vl (rf_w ρ_8 0 78 (0:Int32)) (fun ρ_9 => vl (rf_w ρ_9 0 79 (0:Int32)) (fun ρ_10 => bd1 (fq_begin ρ_10) (fun ρ_11 => bq_boot_154 (0:Int32) ρ_11)))))))))
noncomputable def bq_boot_47 (x1 : Int32) (ρ : rf_S) : Option (Int32 × rf_S) := (lp (fun z : (Int32 × rf_S) => lq_boot_47  z.1 z.2) (x1, ρ)).bind (fun y => Sum.elim (fun z => some z) (fun z => eq_boot_47  z.1 z.2) y)
set_option maxHeartbeats 4000000 in
theorem wq_boot_47 (C : rf_C D p s m args meth c cX12_boot 2 (some .int)) {r : Int32} {x1 : Int32} {ρ ρ' : rf_S} {H : Heap} {locs : List Loc} {ls : Array Slot} (h : bq_boot_47 x1 ρ = some (r, ρ')) (G : rf_G D h0 s ρ H locs) (hl : lv_has ls 2 [(0, .ref h0), (1, .int x1)]) : W p l e ({ frames := 4, cells := 0, slots := 0, locals := 100 }) s m args below meth c H locs 0 0 (MQ below (rf_Q D h0 (some (.int r)) ρ') args s 0 0 (rf_A h0)) (F0 m 47 ls []) := by
  unfold bq_boot_47 at h
  obtain ⟨y, hy, h⟩ := bd_some h
  have hE : (Sum.elim (fun z : Int32 × rf_S => z = (r, ρ')) (fun z : (Int32 × rf_S) => ∀ (H : Heap) (locs : List Loc) (ls : Array Slot), rf_G D h0 s z.2 H locs → lv_has ls 2 [(0, .ref h0), (1, .int z.1)] → W p l e ({ frames := 4, cells := 0, slots := 0, locals := 100 }) s m args below meth c H locs 0 0 (MQ below (rf_Q D h0 (some (.int r)) ρ') args s 0 0 (rf_A h0)) (F0 m 98 ls []))) y := by
    cases y with
    | inl z =>
      exact Option.some.inj h
    | inr z =>
      intro H locs ls G hl
      have h := se_r h
      obtain ⟨x1, ρ⟩ := z
      dsimp only at h G hl
      unfold eq_boot_47 at h
      refine lv_aload_n C.1 C.2.1 dX12_boot_98 rfl (lv_at hl 0 rfl) ?_
      refine gf_52 C G dX12_boot_99 ?_
      refine lv_bipush (v := (40:Int32)) C.1 C.2.1 dX12_boot_102 (by decide) ?_
      refine lv_icmp_ne (tgt := 110) C.1 C.2.1 dX12_boot_104 (by decide) (fun hc => ?_) (fun hc => ?_)
      · rw [if_neg hc] at h
        refine lv_aload_n C.1 C.2.1 dX12_boot_110 rfl (lv_at hl 0 rfl) ?_
        obtain ⟨ρ_4, hq, h⟩ := bd1_some h
        refine rf_callV (rest := []) C G cw_takeConfig [] _ (kq_takeConfig l D h0 hq) (Nat.le_of_ble_eq_true rfl) (Nat.le_of_ble_eq_true rfl) rfl rfl hl.1 (Nat.le_of_ble_eq_true rfl) (Nat.zero_le _) (Nat.zero_le _) dX12_boot_111 (fun H locs G => ?_)
        refine W.eq (g2 := F0 m 114 ls []) rfl ?_
        refine lv_aload_n C.1 C.2.1 dX12_boot_114 rfl (lv_at hl 0 rfl) ?_
        obtain ⟨ρ_5, hq, h⟩ := bd1_some h
        refine rf_callV (rest := []) C G cw_measureAll [] _ (kq_measureAll l D h0 hq) (Nat.le_of_ble_eq_true rfl) (Nat.le_of_ble_eq_true rfl) rfl rfl hl.1 (Nat.le_of_ble_eq_true rfl) (Nat.zero_le _) (Nat.zero_le _) dX12_boot_115 (fun H locs G => ?_)
        refine W.eq (g2 := F0 m 118 ls []) rfl ?_
        refine lv_aload_n C.1 C.2.1 dX12_boot_118 rfl (lv_at hl 0 rfl) ?_
        refine lv_dup C.1 C.2.1 dX12_boot_119 rfl ?_
        refine gf_52 C G dX12_boot_120 ?_
        refine lv_iconst (v := (1:Int32)) C.1 C.2.1 dX12_boot_123 (by decide) ?_
        refine lv_iadd C.1 C.2.1 dX12_boot_124 ?_
        refine pf_52 C G dX12_boot_125 (fun H locs G => ?_)
        refine rf_nm G h (fun ρ_6 G h => ?_)
        refine lv_aload_n C.1 C.2.1 dX12_boot_128 rfl (lv_at hl 0 rfl) ?_
        refine lv_iconst (v := (1:Int32)) C.1 C.2.1 dX12_boot_129 (by decide) ?_
        refine pf_51 C G rfl rfl dX12_boot_130 (fun H locs G => ?_)
        refine rf_nm G h (fun ρ_7 G h => ?_)
        refine lv_aload_n C.1 C.2.1 dX12_boot_133 rfl (lv_at hl 0 rfl) ?_
        refine lv_iconst (v := (0:Int32)) C.1 C.2.1 dX12_boot_134 (by decide) ?_
        refine pf_54 C G dX12_boot_135 (fun H locs G => ?_)
        refine rf_nm G h (fun ρ_8 G h => ?_)
        refine lv_aload_n C.1 C.2.1 dX12_boot_138 rfl (lv_at hl 0 rfl) ?_
        refine lv_iconst (v := (0:Int32)) C.1 C.2.1 dX12_boot_139 (by decide) ?_
        refine pf_78 C G dX12_boot_140 (fun H locs G => ?_)
        refine rf_nm G h (fun ρ_9 G h => ?_)
        refine lv_aload_n C.1 C.2.1 dX12_boot_143 rfl (lv_at hl 0 rfl) ?_
        refine lv_iconst (v := (0:Int32)) C.1 C.2.1 dX12_boot_144 (by decide) ?_
        refine pf_79 C G dX12_boot_145 (fun H locs G => ?_)
        refine rf_nm G h (fun ρ_10 G h => ?_)
        refine lv_aload_n C.1 C.2.1 dX12_boot_148 rfl (lv_at hl 0 rfl) ?_
        obtain ⟨ρ_11, hq, h⟩ := bd1_some h
        refine rf_callV (rest := []) C G cw_begin [] _ (kq_begin l D h0 hq) (Nat.le_of_ble_eq_true rfl) (Nat.le_of_ble_eq_true rfl) rfl rfl hl.1 (Nat.le_of_ble_eq_true rfl) (Nat.zero_le _) (Nat.zero_le _) dX12_boot_149 (fun H locs G => ?_)
        refine W.eq (g2 := F0 m 152 ls []) rfl ?_
        refine lv_iconst (v := (0:Int32)) C.1 C.2.1 dX12_boot_152 (by decide) ?_
        refine lv_istore_n (lv' := [(1, .int (0:Int32)), (0, .ref h0)]) C.1 C.2.1 dX12_boot_153 rfl hl (by decide) rfl (fun ls hl => ?_)
        exact wq_boot_154 C h G (lv_sub hl [1, 0] rfl)
      · rw [if_pos hc] at h
        refine lv_bipush (v := (-4:Int32)) C.1 C.2.1 dX12_boot_107 (by decide) ?_
        exact rf_iret C G h dX12_boot_109
  refine lp_recE (fun z : (Int32 × rf_S) => ∀ (H : Heap) (locs : List Loc) (ls : Array Slot), rf_G D h0 s z.2 H locs → lv_has ls 2 [(0, .ref h0), (1, .int z.1)] → W p l e ({ frames := 4, cells := 0, slots := 0, locals := 100 }) s m args below meth c H locs 0 0 (MQ below (rf_Q D h0 (some (.int r)) ρ') args s 0 0 (rf_A h0)) (F0 m 47 ls [])) (Sum.elim (fun z : Int32 × rf_S => z = (r, ρ')) (fun z : (Int32 × rf_S) => ∀ (H : Heap) (locs : List Loc) (ls : Array Slot), rf_G D h0 s z.2 H locs → lv_has ls 2 [(0, .ref h0), (1, .int z.1)] → W p l e ({ frames := 4, cells := 0, slots := 0, locals := 100 }) s m args below meth c H locs 0 0 (MQ below (rf_Q D h0 (some (.int r)) ρ') args s 0 0 (rf_A h0)) (F0 m 98 ls []))) ?_ _ _ hy hE _ _ _ G hl
  clear hE hy G hl h
  intro z o h hP H locs ls G hl
  obtain ⟨x1, ρ⟩ := z
  dsimp only at h G hl
  unfold lq_boot_47 at h
  refine lv_iload_n C.1 C.2.1 dX12_boot_47 rfl (lv_at hl 1 rfl) ?_
  refine lv_aload_n C.1 C.2.1 dX12_boot_48 rfl (lv_at hl 0 rfl) ?_
  refine gf_117 C G dX12_boot_49 ?_
  refine lv_sipush (v := (196:Int32)) C.1 C.2.1 dX12_boot_52 (by decide) ?_
  obtain ⟨hi, h⟩ := ix_some h
  refine rf_iald C G 79 rfl (by decide) rfl rfl hi dX12_boot_55 ?_
  refine lv_icmp_ge (tgt := 98) C.1 C.2.1 dX12_boot_56 (by decide) (fun hc => ?_) (fun hc => ?_)
  · rw [if_pos hc] at h
    cases h
    exact hP _ _ _ G (lv_sub hl [0, 1] rfl)
  · rw [if_neg hc] at h
    refine lv_aload_n C.1 C.2.1 dX12_boot_59 rfl (lv_at hl 0 rfl) ?_
    refine gf_50 C G dX12_boot_60 ?_
    refine lv_iload_n C.1 C.2.1 dX12_boot_63 rfl (lv_at hl 1 rfl) ?_
    obtain ⟨hi, h⟩ := ix_some h
    refine rf_iald C G 27 rfl (by decide) rfl rfl hi dX12_boot_64 ?_
    refine lv_if_eq (tgt := 87) C.1 C.2.1 dX12_boot_65 (by decide) (fun hc => ?_) (fun hc => ?_)
    · rw [if_pos hc] at h
      refine lv_bipush (v := (-20:Int32)) C.1 C.2.1 dX12_boot_87 (by decide) ?_
      refine lv_iload_n C.1 C.2.1 dX12_boot_89 rfl (lv_at hl 1 rfl) ?_
      refine lv_isub C.1 C.2.1 dX12_boot_90 ?_
      cases h
      have hP := congrArg some hP
      exact rf_iret C G hP dX12_boot_91
    · rw [if_neg hc] at h
      refine lv_aload_n C.1 C.2.1 dX12_boot_68 rfl (lv_at hl 0 rfl) ?_
      refine gf_50 C G dX12_boot_69 ?_
      refine lv_iload_n C.1 C.2.1 dX12_boot_72 rfl (lv_at hl 1 rfl) ?_
      obtain ⟨hi, h⟩ := ix_some h
      refine rf_iald C G 27 rfl (by decide) rfl rfl hi dX12_boot_73 ?_
      refine lv_aload_n C.1 C.2.1 dX12_boot_74 rfl (lv_at hl 0 rfl) ?_
      refine gf_117 C G dX12_boot_75 ?_
      refine lv_iconst (v := (3:Int32)) C.1 C.2.1 dX12_boot_78 (by decide) ?_
      refine lv_iload_n C.1 C.2.1 dX12_boot_79 rfl (lv_at hl 1 rfl) ?_
      refine lv_imul C.1 C.2.1 dX12_boot_80 ?_
      refine lv_iconst (v := (1:Int32)) C.1 C.2.1 dX12_boot_81 (by decide) ?_
      refine lv_iadd C.1 C.2.1 dX12_boot_82 ?_
      obtain ⟨hi, h⟩ := ix_some h
      refine rf_iald C G 79 rfl (by decide) rfl rfl hi dX12_boot_83 ?_
      refine lv_icmp_le (tgt := 92) C.1 C.2.1 dX12_boot_84 (by decide) (fun hc => ?_) (fun hc => ?_)
      · rw [if_pos hc] at h
        refine vl_ex h (fun x1_3 ey h => ?_)
        refine lv_iinc (v := x1_3) (lv' := [(1, .int x1_3), (0, .ref h0)]) C.1 C.2.1 dX12_boot_92 hl (k := 1) rfl (by rw [ey]; rfl) (by decide) rfl (fun ls hl => ?_)
        refine lv_goto (tgt := 47) C.1 C.2.1 dX12_boot_95 (by decide) ?_
        cases h
        exact hP _ _ _ G (lv_sub hl [1, 0] rfl)
      · rw [if_neg hc] at h
        refine lv_bipush (v := (-20:Int32)) C.1 C.2.1 dX12_boot_87 (by decide) ?_
        refine lv_iload_n C.1 C.2.1 dX12_boot_89 rfl (lv_at hl 1 rfl) ?_
        refine lv_isub C.1 C.2.1 dX12_boot_90 ?_
        cases h
        have hP := congrArg some hP
        exact rf_iret C G hP dX12_boot_91
noncomputable def bq_boot_0  (ρ : rf_S) : Option (Int32 × rf_S) := (if (ρ.1 0 51) = 0 then ix (8:Int32) 10 ((if (ρ.1 27 (8:Int32).toNatClampNeg) = 0 then some ((-3:Int32), ρ) else ix (9:Int32) 10 ((if (ρ.1 27 (9:Int32).toNatClampNeg) = 0 then some ((-3:Int32), ρ) else bd2 (fq_readConfig ρ) (fun r_2 ρ_1 => (if r_2 = 0 then some (((-100:Int32) - (ρ_1.1 0 115)), ρ_1) else bq_boot_47 (0:Int32) ρ_1)))))) else some ((-3:Int32), ρ))
set_option maxHeartbeats 4000000 in
theorem wq_boot_0 (C : rf_C D p s m args meth c cX12_boot 2 (some .int)) {r : Int32} {ρ ρ' : rf_S} {H : Heap} {locs : List Loc} {ls : Array Slot} (h : bq_boot_0 ρ = some (r, ρ')) (G : rf_G D h0 s ρ H locs) (hl : lv_has ls 2 [(0, .ref h0)]) : W p l e ({ frames := 4, cells := 0, slots := 0, locals := 100 }) s m args below meth c H locs 0 0 (MQ below (rf_Q D h0 (some (.int r)) ρ') args s 0 0 (rf_A h0)) (F0 m 0 ls []) := by
  unfold bq_boot_0 at h
  refine lv_aload_n C.1 C.2.1 dX12_boot_0 rfl (lv_at hl 0 rfl) ?_
  refine gf_51 C G dX12_boot_1 ?_
  refine lv_if_ne (tgt := 27) C.1 C.2.1 dX12_boot_4 (by decide) (fun hc => ?_) (fun hc => ?_)
  · rw [if_neg hc] at h
    refine lv_bipush (v := (-3:Int32)) C.1 C.2.1 dX12_boot_27 (by decide) ?_
    exact rf_iret C G h dX12_boot_29
  · rw [if_pos hc] at h
    refine lv_aload_n C.1 C.2.1 dX12_boot_7 rfl (lv_at hl 0 rfl) ?_
    refine gf_50 C G dX12_boot_8 ?_
    refine lv_bipush (v := (8:Int32)) C.1 C.2.1 dX12_boot_11 (by decide) ?_
    obtain ⟨hi, h⟩ := ix_some h
    refine rf_iald C G 27 rfl (by decide) rfl rfl hi dX12_boot_13 ?_
    refine lv_if_eq (tgt := 27) C.1 C.2.1 dX12_boot_14 (by decide) (fun hc => ?_) (fun hc => ?_)
    · rw [if_pos hc] at h
      refine lv_bipush (v := (-3:Int32)) C.1 C.2.1 dX12_boot_27 (by decide) ?_
      exact rf_iret C G h dX12_boot_29
    · rw [if_neg hc] at h
      refine lv_aload_n C.1 C.2.1 dX12_boot_17 rfl (lv_at hl 0 rfl) ?_
      refine gf_50 C G dX12_boot_18 ?_
      refine lv_bipush (v := (9:Int32)) C.1 C.2.1 dX12_boot_21 (by decide) ?_
      obtain ⟨hi, h⟩ := ix_some h
      refine rf_iald C G 27 rfl (by decide) rfl rfl hi dX12_boot_23 ?_
      refine lv_if_ne (tgt := 30) C.1 C.2.1 dX12_boot_24 (by decide) (fun hc => ?_) (fun hc => ?_)
      · rw [if_neg hc] at h
        refine lv_aload_n C.1 C.2.1 dX12_boot_30 rfl (lv_at hl 0 rfl) ?_
        obtain ⟨r_2, ρ_1, hq, h⟩ := bd2_some h
        refine rf_callV (rest := []) C G cw_readConfig [] _ (kq_readConfig l D h0 hq) (Nat.le_of_ble_eq_true rfl) (Nat.le_of_ble_eq_true rfl) rfl rfl hl.1 (Nat.le_of_ble_eq_true rfl) (Nat.zero_le _) (Nat.zero_le _) dX12_boot_31 (fun H locs G => ?_)
        refine W.eq (g2 := F0 m 34 ls [.int r_2]) rfl ?_
        refine lv_if_ne (tgt := 45) C.1 C.2.1 dX12_boot_34 (by decide) (fun hc => ?_) (fun hc => ?_)
        · rw [if_neg hc] at h
          refine lv_iconst (v := (0:Int32)) C.1 C.2.1 dX12_boot_45 (by decide) ?_
          refine lv_istore_n (lv' := [(1, .int (0:Int32)), (0, .ref h0)]) C.1 C.2.1 dX12_boot_46 rfl hl (by decide) rfl (fun ls hl => ?_)
          exact wq_boot_47 C h G (lv_sub hl [1, 0] rfl)
        · rw [if_pos hc] at h
          refine lv_bipush (v := (-100:Int32)) C.1 C.2.1 dX12_boot_37 (by decide) ?_
          refine lv_aload_n C.1 C.2.1 dX12_boot_39 rfl (lv_at hl 0 rfl) ?_
          refine gf_115 C G dX12_boot_40 ?_
          refine lv_isub C.1 C.2.1 dX12_boot_43 ?_
          exact rf_iret C G h dX12_boot_44
      · rw [if_pos hc] at h
        refine lv_bipush (v := (-3:Int32)) C.1 C.2.1 dX12_boot_27 (by decide) ?_
        exact rf_iret C G h dX12_boot_29
noncomputable def fq_boot  (ρ : rf_S) : Option (Int32 × rf_S) := bq_boot_0 ρ
theorem kq_boot (l : Launch) (D : rf_D) (h0 : Nat) {r : Int32} {ρ ρ' : rf_S} (h : fq_boot ρ = some (r, ρ')) : rf_Met l D h0 yX12_boot cX12_boot 2 (some .int) 4 100 [.ref h0] ρ (some (.int r)) ρ' :=
  rf_of rfl cc_boot (Nat.le_of_ble_eq_true rfl) (fun p e s m args below meth c ls C G hl => wq_boot_0 C h G hl)
abbrev cX12_off : ByteArray := prog_14_method_62_code
def yX12_off : MethodName := ⟨RX12, "off", "()I"⟩
theorem dX12_off_0 : decode cX12_off 0 = .ok (.aload_n 0, 1) := by decide +kernel
theorem dX12_off_1 : decode cX12_off 1 = .ok (.getfield 528, 3) := by decide +kernel
theorem dX12_off_4 : decode cX12_off 4 = .ok (.ifCond .ne 6, 3) := by decide +kernel
theorem dX12_off_7 : decode cX12_off 7 = .ok (.bipush (-3), 2) := by decide +kernel
theorem dX12_off_9 : decode cX12_off 9 = .ok (.ireturn, 1) := by decide +kernel
theorem dX12_off_10 : decode cX12_off 10 = .ok (.aload_n 0, 1) := by decide +kernel
theorem dX12_off_11 : decode cX12_off 11 = .ok (.iconst 0, 1) := by decide +kernel
theorem dX12_off_12 : decode cX12_off 12 = .ok (.putfield 528, 3) := by decide +kernel
theorem dX12_off_15 : decode cX12_off 15 = .ok (.aload_n 0, 1) := by decide +kernel
theorem dX12_off_16 : decode cX12_off 16 = .ok (.getfield 167, 3) := by decide +kernel
theorem dX12_off_19 : decode cX12_off 19 = .ok (.iconst 0, 1) := by decide +kernel
theorem dX12_off_20 : decode cX12_off 20 = .ok (.iaload, 1) := by decide +kernel
theorem dX12_off_21 : decode cX12_off 21 = .ok (.ireturn, 1) := by decide +kernel
theorem cc_off : Cond.code yX12_off cX12_off 1 (some .int) ∈ rf_tb := rf_at 2095 (by decide +kernel) (by decide +kernel)
noncomputable def bq_off_0  (ρ : rf_S) : Option (Int32 × rf_S) := (if (ρ.1 0 51) = 0 then some ((-3:Int32), ρ) else vl (rf_w ρ 0 51 (0:Int32)) (fun ρ_1 => ix (0:Int32) 2 (some ((ρ_1.1 48 (0:Int32).toNatClampNeg), ρ_1))))
set_option maxHeartbeats 4000000 in
theorem wq_off_0 (C : rf_C D p s m args meth c cX12_off 1 (some .int)) {r : Int32} {ρ ρ' : rf_S} {H : Heap} {locs : List Loc} {ls : Array Slot} (h : bq_off_0 ρ = some (r, ρ')) (G : rf_G D h0 s ρ H locs) (hl : lv_has ls 1 [(0, .ref h0)]) : W p l e ({ frames := 0, cells := 0, slots := 0, locals := 0 }) s m args below meth c H locs 0 0 (MQ below (rf_Q D h0 (some (.int r)) ρ') args s 0 0 (rf_A h0)) (F0 m 0 ls []) := by
  unfold bq_off_0 at h
  refine lv_aload_n C.1 C.2.1 dX12_off_0 rfl (lv_at hl 0 rfl) ?_
  refine gf_51 C G dX12_off_1 ?_
  refine lv_if_ne (tgt := 10) C.1 C.2.1 dX12_off_4 (by decide) (fun hc => ?_) (fun hc => ?_)
  · rw [if_neg hc] at h
    refine lv_aload_n C.1 C.2.1 dX12_off_10 rfl (lv_at hl 0 rfl) ?_
    refine lv_iconst (v := (0:Int32)) C.1 C.2.1 dX12_off_11 (by decide) ?_
    refine pf_51 C G rfl rfl dX12_off_12 (fun H locs G => ?_)
    refine rf_nm G h (fun ρ_1 G h => ?_)
    refine lv_aload_n C.1 C.2.1 dX12_off_15 rfl (lv_at hl 0 rfl) ?_
    refine gf_80 C G dX12_off_16 ?_
    refine lv_iconst (v := (0:Int32)) C.1 C.2.1 dX12_off_19 (by decide) ?_
    obtain ⟨hi, h⟩ := ix_some h
    refine rf_iald C G 48 rfl (by decide) rfl rfl hi dX12_off_20 ?_
    exact rf_iret C G h dX12_off_21
  · rw [if_pos hc] at h
    refine lv_bipush (v := (-3:Int32)) C.1 C.2.1 dX12_off_7 (by decide) ?_
    exact rf_iret C G h dX12_off_9
noncomputable def fq_off  (ρ : rf_S) : Option (Int32 × rf_S) := bq_off_0 ρ
theorem kq_off (l : Launch) (D : rf_D) (h0 : Nat) {r : Int32} {ρ ρ' : rf_S} (h : fq_off ρ = some (r, ρ')) : rf_Met l D h0 yX12_off cX12_off 1 (some .int) 0 0 [.ref h0] ρ (some (.int r)) ρ' :=
  rf_of rfl cc_off (Nat.le_of_ble_eq_true rfl) (fun p e s m args below meth c ls C G hl => wq_off_0 C h G hl)
abbrev cX12_cut : ByteArray := prog_14_method_63_code
def yX12_cut : MethodName := ⟨RX12, "cut", "(I)I"⟩
theorem dX12_cut_0 : decode cX12_cut 0 = .ok (.iload_n 1, 1) := by decide +kernel
theorem dX12_cut_1 : decode cX12_cut 1 = .ok (.ifCond .lt 10, 3) := by decide +kernel
theorem dX12_cut_4 : decode cX12_cut 4 = .ok (.iload_n 1, 1) := by decide +kernel
theorem dX12_cut_5 : decode cX12_cut 5 = .ok (.sipush 1000, 3) := by decide +kernel
theorem dX12_cut_8 : decode cX12_cut 8 = .ok (.if_icmp .le 6, 3) := by decide +kernel
theorem dX12_cut_11 : decode cX12_cut 11 = .ok (.bipush (-2), 2) := by decide +kernel
theorem dX12_cut_13 : decode cX12_cut 13 = .ok (.ireturn, 1) := by decide +kernel
theorem dX12_cut_14 : decode cX12_cut 14 = .ok (.aload_n 0, 1) := by decide +kernel
theorem dX12_cut_15 : decode cX12_cut 15 = .ok (.getfield 528, 3) := by decide +kernel
theorem dX12_cut_18 : decode cX12_cut 18 = .ok (.ifCond .ne 6, 3) := by decide +kernel
theorem dX12_cut_21 : decode cX12_cut 21 = .ok (.bipush (-3), 2) := by decide +kernel
theorem dX12_cut_23 : decode cX12_cut 23 = .ok (.ireturn, 1) := by decide +kernel
theorem dX12_cut_24 : decode cX12_cut 24 = .ok (.aload_n 0, 1) := by decide +kernel
theorem dX12_cut_25 : decode cX12_cut 25 = .ok (.iload_n 1, 1) := by decide +kernel
theorem dX12_cut_26 : decode cX12_cut 26 = .ok (.putfield 544, 3) := by decide +kernel
theorem dX12_cut_29 : decode cX12_cut 29 = .ok (.iload_n 1, 1) := by decide +kernel
theorem dX12_cut_30 : decode cX12_cut 30 = .ok (.ireturn, 1) := by decide +kernel
theorem cc_cut : Cond.code yX12_cut cX12_cut 2 (some .int) ∈ rf_tb := rf_at 2099 (by decide +kernel) (by decide +kernel)
noncomputable def bq_cut_0 (x1 : Int32) (ρ : rf_S) : Option (Int32 × rf_S) := (if x1 < 0 then some ((-2:Int32), ρ) else (if x1 ≤ (1000:Int32) then (if (ρ.1 0 51) = 0 then some ((-3:Int32), ρ) else vl (rf_w ρ 0 54 x1) (fun ρ_1 => some (x1, ρ_1))) else some ((-2:Int32), ρ)))
set_option maxHeartbeats 4000000 in
theorem wq_cut_0 (C : rf_C D p s m args meth c cX12_cut 2 (some .int)) {r : Int32} {x1 : Int32} {ρ ρ' : rf_S} {H : Heap} {locs : List Loc} {ls : Array Slot} (h : bq_cut_0 x1 ρ = some (r, ρ')) (G : rf_G D h0 s ρ H locs) (hl : lv_has ls 2 [(0, .ref h0), (1, .int x1)]) : W p l e ({ frames := 0, cells := 0, slots := 0, locals := 0 }) s m args below meth c H locs 0 0 (MQ below (rf_Q D h0 (some (.int r)) ρ') args s 0 0 (rf_A h0)) (F0 m 0 ls []) := by
  unfold bq_cut_0 at h
  refine lv_iload_n C.1 C.2.1 dX12_cut_0 rfl (lv_at hl 1 rfl) ?_
  refine lv_if_lt (tgt := 11) C.1 C.2.1 dX12_cut_1 (by decide) (fun hc => ?_) (fun hc => ?_)
  · rw [if_pos hc] at h
    refine lv_bipush (v := (-2:Int32)) C.1 C.2.1 dX12_cut_11 (by decide) ?_
    exact rf_iret C G h dX12_cut_13
  · rw [if_neg hc] at h
    refine lv_iload_n C.1 C.2.1 dX12_cut_4 rfl (lv_at hl 1 rfl) ?_
    refine lv_sipush (v := (1000:Int32)) C.1 C.2.1 dX12_cut_5 (by decide) ?_
    refine lv_icmp_le (tgt := 14) C.1 C.2.1 dX12_cut_8 (by decide) (fun hc => ?_) (fun hc => ?_)
    · rw [if_pos hc] at h
      refine lv_aload_n C.1 C.2.1 dX12_cut_14 rfl (lv_at hl 0 rfl) ?_
      refine gf_51 C G dX12_cut_15 ?_
      refine lv_if_ne (tgt := 24) C.1 C.2.1 dX12_cut_18 (by decide) (fun hc => ?_) (fun hc => ?_)
      · rw [if_neg hc] at h
        refine lv_aload_n C.1 C.2.1 dX12_cut_24 rfl (lv_at hl 0 rfl) ?_
        refine lv_iload_n C.1 C.2.1 dX12_cut_25 rfl (lv_at hl 1 rfl) ?_
        refine pf_54 C G dX12_cut_26 (fun H locs G => ?_)
        refine rf_nm G h (fun ρ_1 G h => ?_)
        refine lv_iload_n C.1 C.2.1 dX12_cut_29 rfl (lv_at hl 1 rfl) ?_
        exact rf_iret C G h dX12_cut_30
      · rw [if_pos hc] at h
        refine lv_bipush (v := (-3:Int32)) C.1 C.2.1 dX12_cut_21 (by decide) ?_
        exact rf_iret C G h dX12_cut_23
    · rw [if_neg hc] at h
      refine lv_bipush (v := (-2:Int32)) C.1 C.2.1 dX12_cut_11 (by decide) ?_
      exact rf_iret C G h dX12_cut_13
noncomputable def fq_cut (x1 : Int32) (ρ : rf_S) : Option (Int32 × rf_S) := bq_cut_0 x1 ρ
theorem kq_cut (l : Launch) (D : rf_D) (h0 : Nat) {r : Int32} {x1 : Int32} {ρ ρ' : rf_S} (h : fq_cut x1 ρ = some (r, ρ')) : rf_Met l D h0 yX12_cut cX12_cut 2 (some .int) 0 0 [.ref h0, .int x1] ρ (some (.int r)) ρ' :=
  rf_of rfl cc_cut (Nat.le_of_ble_eq_true rfl) (fun p e s m args below meth c ls C G hl => wq_cut_0 C h G hl)
abbrev cX12_trap : ByteArray := prog_14_method_68_code
def yX12_trap : MethodName := ⟨RX12, "trap", "(I)V"⟩
theorem dX12_trap_0 : decode cX12_trap 0 = .ok (.aload_n 0, 1) := by decide +kernel
theorem dX12_trap_1 : decode cX12_trap 1 = .ok (.getfield 191, 3) := by decide +kernel
theorem dX12_trap_4 : decode cX12_trap 4 = .ok (.aload_n 0, 1) := by decide +kernel
theorem dX12_trap_5 : decode cX12_trap 5 = .ok (.getfield 563, 3) := by decide +kernel
theorem dX12_trap_8 : decode cX12_trap 8 = .ok (.iload_n 1, 1) := by decide +kernel
theorem dX12_trap_9 : decode cX12_trap 9 = .ok (.iastore, 1) := by decide +kernel
theorem dX12_trap_10 : decode cX12_trap 10 = .ok (.aload_n 0, 1) := by decide +kernel
theorem dX12_trap_11 : decode cX12_trap 11 = .ok (.getfield 194, 3) := by decide +kernel
theorem dX12_trap_14 : decode cX12_trap 14 = .ok (.aload_n 0, 1) := by decide +kernel
theorem dX12_trap_15 : decode cX12_trap 15 = .ok (.getfield 563, 3) := by decide +kernel
theorem dX12_trap_18 : decode cX12_trap 18 = .ok (.aload_n 0, 1) := by decide +kernel
theorem dX12_trap_19 : decode cX12_trap 19 = .ok (.getfield 185, 3) := by decide +kernel
theorem dX12_trap_22 : decode cX12_trap 22 = .ok (.aload_n 0, 1) := by decide +kernel
theorem dX12_trap_23 : decode cX12_trap 23 = .ok (.getfield 563, 3) := by decide +kernel
theorem dX12_trap_26 : decode cX12_trap 26 = .ok (.iaload, 1) := by decide +kernel
theorem dX12_trap_27 : decode cX12_trap 27 = .ok (.iastore, 1) := by decide +kernel
theorem dX12_trap_28 : decode cX12_trap 28 = .ok (.aload_n 0, 1) := by decide +kernel
theorem dX12_trap_29 : decode cX12_trap 29 = .ok (.getfield 197, 3) := by decide +kernel
theorem dX12_trap_32 : decode cX12_trap 32 = .ok (.aload_n 0, 1) := by decide +kernel
theorem dX12_trap_33 : decode cX12_trap 33 = .ok (.getfield 563, 3) := by decide +kernel
theorem dX12_trap_36 : decode cX12_trap 36 = .ok (.iaload, 1) := by decide +kernel
theorem dX12_trap_37 : decode cX12_trap 37 = .ok (.ifCond .eq 15, 3) := by decide +kernel
theorem dX12_trap_40 : decode cX12_trap 40 = .ok (.aload_n 0, 1) := by decide +kernel
theorem dX12_trap_41 : decode cX12_trap 41 = .ok (.getfield 200, 3) := by decide +kernel
theorem dX12_trap_44 : decode cX12_trap 44 = .ok (.aload_n 0, 1) := by decide +kernel
theorem dX12_trap_45 : decode cX12_trap 45 = .ok (.getfield 563, 3) := by decide +kernel
theorem dX12_trap_48 : decode cX12_trap 48 = .ok (.baload, 1) := by decide +kernel
theorem dX12_trap_49 : decode cX12_trap 49 = .ok (.ifCond .eq 16, 3) := by decide +kernel
theorem dX12_trap_52 : decode cX12_trap 52 = .ok (.aload_n 0, 1) := by decide +kernel
theorem dX12_trap_53 : decode cX12_trap 53 = .ok (.getfield 188, 3) := by decide +kernel
theorem dX12_trap_56 : decode cX12_trap 56 = .ok (.aload_n 0, 1) := by decide +kernel
theorem dX12_trap_57 : decode cX12_trap 57 = .ok (.getfield 563, 3) := by decide +kernel
theorem dX12_trap_60 : decode cX12_trap 60 = .ok (.iconst 1, 1) := by decide +kernel
theorem dX12_trap_61 : decode cX12_trap 61 = .ok (.bastore, 1) := by decide +kernel
theorem dX12_trap_62 : decode cX12_trap 62 = .ok (.goto 31, 3) := by decide +kernel
theorem dX12_trap_65 : decode cX12_trap 65 = .ok (.aload_n 0, 1) := by decide +kernel
theorem dX12_trap_66 : decode cX12_trap 66 = .ok (.getfield 185, 3) := by decide +kernel
theorem dX12_trap_69 : decode cX12_trap 69 = .ok (.aload_n 0, 1) := by decide +kernel
theorem dX12_trap_70 : decode cX12_trap 70 = .ok (.getfield 563, 3) := by decide +kernel
theorem dX12_trap_73 : decode cX12_trap 73 = .ok (.aload_n 0, 1) := by decide +kernel
theorem dX12_trap_74 : decode cX12_trap 74 = .ok (.getfield 197, 3) := by decide +kernel
theorem dX12_trap_77 : decode cX12_trap 77 = .ok (.aload_n 0, 1) := by decide +kernel
theorem dX12_trap_78 : decode cX12_trap 78 = .ok (.getfield 563, 3) := by decide +kernel
theorem dX12_trap_81 : decode cX12_trap 81 = .ok (.iaload, 1) := by decide +kernel
theorem dX12_trap_82 : decode cX12_trap 82 = .ok (.iastore, 1) := by decide +kernel
theorem dX12_trap_83 : decode cX12_trap 83 = .ok (.aload_n 0, 1) := by decide +kernel
theorem dX12_trap_84 : decode cX12_trap 84 = .ok (.getfield 200, 3) := by decide +kernel
theorem dX12_trap_87 : decode cX12_trap 87 = .ok (.aload_n 0, 1) := by decide +kernel
theorem dX12_trap_88 : decode cX12_trap 88 = .ok (.getfield 563, 3) := by decide +kernel
theorem dX12_trap_91 : decode cX12_trap 91 = .ok (.iconst 1, 1) := by decide +kernel
theorem dX12_trap_92 : decode cX12_trap 92 = .ok (.bastore, 1) := by decide +kernel
theorem dX12_trap_93 : decode cX12_trap 93 = .ok (.return_, 1) := by decide +kernel
theorem cc_trap : Cond.code yX12_trap cX12_trap 2 none ∈ rf_tb := rf_at 2116 (by decide +kernel) (by decide +kernel)
theorem cw_trap : rf_wV yX12_trap cX12_trap 2 none 573 1 := ⟨⟨rf_at 2113 (by decide +kernel) (by decide +kernel), rf_at 2115 (by decide +kernel) (by decide +kernel), rf_sel (q := (yX12_trap, 122)) 110 (by decide +kernel) (by decide +kernel), cc_trap⟩, rfl, by decide +kernel⟩
noncomputable def bq_trap_52  (ρ : rf_S) : Option (rf_S) := ix (ρ.1 0 119) 16 (vl (rf_w ρ 55 (ρ.1 0 119).toNatClampNeg (vp_nar .boolean (1:Int32))) (fun ρ_3 => some ρ_3))
set_option maxHeartbeats 4000000 in
theorem wq_trap_52 (C : rf_C D p s m args meth c cX12_trap 2 none) {ρ ρ' : rf_S} {H : Heap} {locs : List Loc} {ls : Array Slot} (h : bq_trap_52 ρ = some ρ') (G : rf_G D h0 s ρ H locs) (hl : lv_has ls 2 [(0, .ref h0)]) : W p l e ({ frames := 0, cells := 0, slots := 0, locals := 0 }) s m args below meth c H locs 0 0 (MQ below (rf_Q D h0 none ρ') args s 0 0 (rf_A h0)) (F0 m 52 ls []) := by
  unfold bq_trap_52 at h
  refine lv_aload_n C.1 C.2.1 dX12_trap_52 rfl (lv_at hl 0 rfl) ?_
  refine gf_87 C G dX12_trap_53 ?_
  refine lv_aload_n C.1 C.2.1 dX12_trap_56 rfl (lv_at hl 0 rfl) ?_
  refine gf_119 C G dX12_trap_57 ?_
  refine lv_iconst (v := (1:Int32)) C.1 C.2.1 dX12_trap_60 (by decide) ?_
  obtain ⟨hi, h⟩ := ix_some h
  refine rf_zast C G 55 rfl (by decide) rfl rfl hi dX12_trap_61 (fun H locs G => ?_)
  refine rf_nm G h (fun ρ_3 G h => ?_)
  refine lv_goto (tgt := 93) C.1 C.2.1 dX12_trap_62 (by decide) ?_
  exact rf_vret C G h dX12_trap_93
noncomputable def bq_trap_0 (x1 : Int32) (ρ : rf_S) : Option (rf_S) := ix (ρ.1 0 119) 16 (vl (rf_w ρ 56 (ρ.1 0 119).toNatClampNeg x1) (fun ρ_1 => ix (ρ_1.1 0 119) 16 (ix (ρ_1.1 0 119) 16 (vl (rf_w ρ_1 57 (ρ_1.1 0 119).toNatClampNeg (ρ_1.1 54 (ρ_1.1 0 119).toNatClampNeg)) (fun ρ_2 => ix (ρ_2.1 0 119) 16 ((if (ρ_2.1 58 (ρ_2.1 0 119).toNatClampNeg) = 0 then bq_trap_52 ρ_2 else ix (ρ_2.1 0 119) 16 ((if (ρ_2.1 59 (ρ_2.1 0 119).toNatClampNeg) = 0 then ix (ρ_2.1 0 119) 16 (ix (ρ_2.1 0 119) 16 (vl (rf_w ρ_2 54 (ρ_2.1 0 119).toNatClampNeg (ρ_2.1 58 (ρ_2.1 0 119).toNatClampNeg)) (fun ρ_4 => ix (ρ_4.1 0 119) 16 (vl (rf_w ρ_4 59 (ρ_4.1 0 119).toNatClampNeg (vp_nar .boolean (1:Int32))) (fun ρ_5 => some ρ_5))))) else bq_trap_52 ρ_2)))))))))
set_option maxHeartbeats 4000000 in
theorem wq_trap_0 (C : rf_C D p s m args meth c cX12_trap 2 none) {x1 : Int32} {ρ ρ' : rf_S} {H : Heap} {locs : List Loc} {ls : Array Slot} (h : bq_trap_0 x1 ρ = some ρ') (G : rf_G D h0 s ρ H locs) (hl : lv_has ls 2 [(0, .ref h0), (1, .int x1)]) : W p l e ({ frames := 0, cells := 0, slots := 0, locals := 0 }) s m args below meth c H locs 0 0 (MQ below (rf_Q D h0 none ρ') args s 0 0 (rf_A h0)) (F0 m 0 ls []) := by
  unfold bq_trap_0 at h
  refine lv_aload_n C.1 C.2.1 dX12_trap_0 rfl (lv_at hl 0 rfl) ?_
  refine gf_88 C G dX12_trap_1 ?_
  refine lv_aload_n C.1 C.2.1 dX12_trap_4 rfl (lv_at hl 0 rfl) ?_
  refine gf_119 C G dX12_trap_5 ?_
  refine lv_iload_n C.1 C.2.1 dX12_trap_8 rfl (lv_at hl 1 rfl) ?_
  obtain ⟨hi, h⟩ := ix_some h
  refine rf_iast C G 56 rfl (by decide) rfl rfl hi dX12_trap_9 (fun H locs G => ?_)
  refine rf_nm G h (fun ρ_1 G h => ?_)
  refine lv_aload_n C.1 C.2.1 dX12_trap_10 rfl (lv_at hl 0 rfl) ?_
  refine gf_89 C G dX12_trap_11 ?_
  refine lv_aload_n C.1 C.2.1 dX12_trap_14 rfl (lv_at hl 0 rfl) ?_
  refine gf_119 C G dX12_trap_15 ?_
  refine lv_aload_n C.1 C.2.1 dX12_trap_18 rfl (lv_at hl 0 rfl) ?_
  refine gf_86 C G dX12_trap_19 ?_
  refine lv_aload_n C.1 C.2.1 dX12_trap_22 rfl (lv_at hl 0 rfl) ?_
  refine gf_119 C G dX12_trap_23 ?_
  obtain ⟨hi, h⟩ := ix_some h
  refine rf_iald C G 54 rfl (by decide) rfl rfl hi dX12_trap_26 ?_
  obtain ⟨hi, h⟩ := ix_some h
  refine rf_iast C G 57 rfl (by decide) rfl rfl hi dX12_trap_27 (fun H locs G => ?_)
  refine rf_nm G h (fun ρ_2 G h => ?_)
  refine lv_aload_n C.1 C.2.1 dX12_trap_28 rfl (lv_at hl 0 rfl) ?_
  refine gf_90 C G dX12_trap_29 ?_
  refine lv_aload_n C.1 C.2.1 dX12_trap_32 rfl (lv_at hl 0 rfl) ?_
  refine gf_119 C G dX12_trap_33 ?_
  obtain ⟨hi, h⟩ := ix_some h
  refine rf_iald C G 58 rfl (by decide) rfl rfl hi dX12_trap_36 ?_
  refine lv_if_eq (tgt := 52) C.1 C.2.1 dX12_trap_37 (by decide) (fun hc => ?_) (fun hc => ?_)
  · rw [if_pos hc] at h
    exact wq_trap_52 C h G (lv_sub hl [0] rfl)
  · rw [if_neg hc] at h
    refine lv_aload_n C.1 C.2.1 dX12_trap_40 rfl (lv_at hl 0 rfl) ?_
    refine gf_91 C G dX12_trap_41 ?_
    refine lv_aload_n C.1 C.2.1 dX12_trap_44 rfl (lv_at hl 0 rfl) ?_
    refine gf_119 C G dX12_trap_45 ?_
    obtain ⟨hi, h⟩ := ix_some h
    refine rf_zald C G 59 rfl (by decide) rfl rfl hi dX12_trap_48 ?_
    refine lv_if_eq (tgt := 65) C.1 C.2.1 dX12_trap_49 (by decide) (fun hc => ?_) (fun hc => ?_)
    · rw [if_pos hc] at h
      refine lv_aload_n C.1 C.2.1 dX12_trap_65 rfl (lv_at hl 0 rfl) ?_
      refine gf_86 C G dX12_trap_66 ?_
      refine lv_aload_n C.1 C.2.1 dX12_trap_69 rfl (lv_at hl 0 rfl) ?_
      refine gf_119 C G dX12_trap_70 ?_
      refine lv_aload_n C.1 C.2.1 dX12_trap_73 rfl (lv_at hl 0 rfl) ?_
      refine gf_90 C G dX12_trap_74 ?_
      refine lv_aload_n C.1 C.2.1 dX12_trap_77 rfl (lv_at hl 0 rfl) ?_
      refine gf_119 C G dX12_trap_78 ?_
      obtain ⟨hi, h⟩ := ix_some h
      refine rf_iald C G 58 rfl (by decide) rfl rfl hi dX12_trap_81 ?_
      obtain ⟨hi, h⟩ := ix_some h
      refine rf_iast C G 54 rfl (by decide) rfl rfl hi dX12_trap_82 (fun H locs G => ?_)
      refine rf_nm G h (fun ρ_4 G h => ?_)
      refine lv_aload_n C.1 C.2.1 dX12_trap_83 rfl (lv_at hl 0 rfl) ?_
      refine gf_91 C G dX12_trap_84 ?_
      refine lv_aload_n C.1 C.2.1 dX12_trap_87 rfl (lv_at hl 0 rfl) ?_
      refine gf_119 C G dX12_trap_88 ?_
      refine lv_iconst (v := (1:Int32)) C.1 C.2.1 dX12_trap_91 (by decide) ?_
      obtain ⟨hi, h⟩ := ix_some h
      refine rf_zast C G 59 rfl (by decide) rfl rfl hi dX12_trap_92 (fun H locs G => ?_)
      refine rf_nm G h (fun ρ_5 G h => ?_)
      exact rf_vret C G h dX12_trap_93
    · rw [if_neg hc] at h
      exact wq_trap_52 C h G (lv_sub hl [0] rfl)
noncomputable def fq_trap (x1 : Int32) (ρ : rf_S) : Option (rf_S) := bq_trap_0 x1 ρ
theorem kq_trap (l : Launch) (D : rf_D) (h0 : Nat) {x1 : Int32} {ρ ρ' : rf_S} (h : fq_trap x1 ρ = some ρ') : rf_Met l D h0 yX12_trap cX12_trap 2 none 0 0 [.ref h0, .int x1] ρ none ρ' :=
  rf_of rfl cc_trap (Nat.le_of_ble_eq_true rfl) (fun p e s m args below meth c ls C G hl => wq_trap_0 C h G hl)
abbrev cX12_reg : ByteArray := prog_14_method_66_code
def yX12_reg : MethodName := ⟨RX12, "reg", "(I)I"⟩
theorem dX12_reg_0 : decode cX12_reg 0 = .ok (.aload_n 0, 1) := by decide +kernel
theorem dX12_reg_1 : decode cX12_reg 1 = .ok (.getfield 182, 3) := by decide +kernel
theorem dX12_reg_4 : decode cX12_reg 4 = .ok (.bipush 16, 2) := by decide +kernel
theorem dX12_reg_6 : decode cX12_reg 6 = .ok (.aload_n 0, 1) := by decide +kernel
theorem dX12_reg_7 : decode cX12_reg 7 = .ok (.getfield 563, 3) := by decide +kernel
theorem dX12_reg_10 : decode cX12_reg 10 = .ok (.imul, 1) := by decide +kernel
theorem dX12_reg_11 : decode cX12_reg 11 = .ok (.iload_n 1, 1) := by decide +kernel
theorem dX12_reg_12 : decode cX12_reg 12 = .ok (.iadd, 1) := by decide +kernel
theorem dX12_reg_13 : decode cX12_reg 13 = .ok (.iaload, 1) := by decide +kernel
theorem dX12_reg_14 : decode cX12_reg 14 = .ok (.ireturn, 1) := by decide +kernel
theorem cc_reg : Cond.code yX12_reg cX12_reg 2 (some .int) ∈ rf_tb := rf_at 2120 (by decide +kernel) (by decide +kernel)
theorem cw_reg : rf_wV yX12_reg cX12_reg 2 (some .int) 579 1 := ⟨⟨rf_at 2117 (by decide +kernel) (by decide +kernel), rf_at 2119 (by decide +kernel) (by decide +kernel), rf_sel (q := (yX12_reg, 122)) 111 (by decide +kernel) (by decide +kernel), cc_reg⟩, rfl, by decide +kernel⟩
noncomputable def bq_reg_0 (x1 : Int32) (ρ : rf_S) : Option (Int32 × rf_S) := ix (((16:Int32) * (ρ.1 0 119)) + x1) 256 (some ((ρ.1 53 (((16:Int32) * (ρ.1 0 119)) + x1).toNatClampNeg), ρ))
set_option maxHeartbeats 4000000 in
theorem wq_reg_0 (C : rf_C D p s m args meth c cX12_reg 2 (some .int)) {r : Int32} {x1 : Int32} {ρ ρ' : rf_S} {H : Heap} {locs : List Loc} {ls : Array Slot} (h : bq_reg_0 x1 ρ = some (r, ρ')) (G : rf_G D h0 s ρ H locs) (hl : lv_has ls 2 [(0, .ref h0), (1, .int x1)]) : W p l e ({ frames := 0, cells := 0, slots := 0, locals := 0 }) s m args below meth c H locs 0 0 (MQ below (rf_Q D h0 (some (.int r)) ρ') args s 0 0 (rf_A h0)) (F0 m 0 ls []) := by
  unfold bq_reg_0 at h
  refine lv_aload_n C.1 C.2.1 dX12_reg_0 rfl (lv_at hl 0 rfl) ?_
  refine gf_85 C G dX12_reg_1 ?_
  refine lv_bipush (v := (16:Int32)) C.1 C.2.1 dX12_reg_4 (by decide) ?_
  refine lv_aload_n C.1 C.2.1 dX12_reg_6 rfl (lv_at hl 0 rfl) ?_
  refine gf_119 C G dX12_reg_7 ?_
  refine lv_imul C.1 C.2.1 dX12_reg_10 ?_
  refine lv_iload_n C.1 C.2.1 dX12_reg_11 rfl (lv_at hl 1 rfl) ?_
  refine lv_iadd C.1 C.2.1 dX12_reg_12 ?_
  obtain ⟨hi, h⟩ := ix_some h
  refine rf_iald C G 53 rfl (by decide) rfl rfl hi dX12_reg_13 ?_
  exact rf_iret C G h dX12_reg_14
noncomputable def fq_reg (x1 : Int32) (ρ : rf_S) : Option (Int32 × rf_S) := bq_reg_0 x1 ρ
theorem kq_reg (l : Launch) (D : rf_D) (h0 : Nat) {r : Int32} {x1 : Int32} {ρ ρ' : rf_S} (h : fq_reg x1 ρ = some (r, ρ')) : rf_Met l D h0 yX12_reg cX12_reg 2 (some .int) 0 0 [.ref h0, .int x1] ρ (some (.int r)) ρ' :=
  rf_of rfl cc_reg (Nat.le_of_ble_eq_true rfl) (fun p e s m args below meth c ls C G hl => wq_reg_0 C h G hl)
end RQ8
