section RQ7
variable {p : Program} {l : Launch} {e : Env} {s : State} {m : MethodId} {args : Array Value} {below : List Frame} {meth : Method} {c : Code} {D : rf_D} {h0 : Nat}
abbrev cX12_takeConfig : ByteArray := prog_14_method_58_code
def yX12_takeConfig : MethodName := ⟨RX12, "takeConfig", "()V"⟩
theorem dX12_takeConfig_0 : decode cX12_takeConfig 0 = .ok (.aload_n 0, 1) := by decide +kernel
theorem dX12_takeConfig_1 : decode cX12_takeConfig 1 = .ok (.aload_n 0, 1) := by decide +kernel
theorem dX12_takeConfig_2 : decode cX12_takeConfig 2 = .ok (.getfield 260, 3) := by decide +kernel
theorem dX12_takeConfig_5 : decode cX12_takeConfig 5 = .ok (.sipush 196, 3) := by decide +kernel
theorem dX12_takeConfig_8 : decode cX12_takeConfig 8 = .ok (.iaload, 1) := by decide +kernel
theorem dX12_takeConfig_9 : decode cX12_takeConfig 9 = .ok (.putfield 513, 3) := by decide +kernel
theorem dX12_takeConfig_12 : decode cX12_takeConfig 12 = .ok (.aload_n 0, 1) := by decide +kernel
theorem dX12_takeConfig_13 : decode cX12_takeConfig 13 = .ok (.aload_n 0, 1) := by decide +kernel
theorem dX12_takeConfig_14 : decode cX12_takeConfig 14 = .ok (.getfield 260, 3) := by decide +kernel
theorem dX12_takeConfig_17 : decode cX12_takeConfig 17 = .ok (.sipush 197, 3) := by decide +kernel
theorem dX12_takeConfig_20 : decode cX12_takeConfig 20 = .ok (.iaload, 1) := by decide +kernel
theorem dX12_takeConfig_21 : decode cX12_takeConfig 21 = .ok (.putfield 516, 3) := by decide +kernel
theorem dX12_takeConfig_24 : decode cX12_takeConfig 24 = .ok (.aload_n 0, 1) := by decide +kernel
theorem dX12_takeConfig_25 : decode cX12_takeConfig 25 = .ok (.aload_n 0, 1) := by decide +kernel
theorem dX12_takeConfig_26 : decode cX12_takeConfig 26 = .ok (.getfield 260, 3) := by decide +kernel
theorem dX12_takeConfig_29 : decode cX12_takeConfig 29 = .ok (.sipush 198, 3) := by decide +kernel
theorem dX12_takeConfig_32 : decode cX12_takeConfig 32 = .ok (.iaload, 1) := by decide +kernel
theorem dX12_takeConfig_33 : decode cX12_takeConfig 33 = .ok (.putfield 519, 3) := by decide +kernel
theorem dX12_takeConfig_36 : decode cX12_takeConfig 36 = .ok (.iconst 0, 1) := by decide +kernel
theorem dX12_takeConfig_37 : decode cX12_takeConfig 37 = .ok (.istore_n 1, 1) := by decide +kernel
theorem dX12_takeConfig_38 : decode cX12_takeConfig 38 = .ok (.iconst 0, 1) := by decide +kernel
theorem dX12_takeConfig_39 : decode cX12_takeConfig 39 = .ok (.istore_n 2, 1) := by decide +kernel
theorem dX12_takeConfig_40 : decode cX12_takeConfig 40 = .ok (.iload_n 2, 1) := by decide +kernel
theorem dX12_takeConfig_41 : decode cX12_takeConfig 41 = .ok (.aload_n 0, 1) := by decide +kernel
theorem dX12_takeConfig_42 : decode cX12_takeConfig 42 = .ok (.getfield 513, 3) := by decide +kernel
theorem dX12_takeConfig_45 : decode cX12_takeConfig 45 = .ok (.if_icmp .ge 71, 3) := by decide +kernel
theorem dX12_takeConfig_48 : decode cX12_takeConfig 48 = .ok (.aload_n 0, 1) := by decide +kernel
theorem dX12_takeConfig_49 : decode cX12_takeConfig 49 = .ok (.getfield 107, 3) := by decide +kernel
theorem dX12_takeConfig_52 : decode cX12_takeConfig 52 = .ok (.iload_n 2, 1) := by decide +kernel
theorem dX12_takeConfig_53 : decode cX12_takeConfig 53 = .ok (.aload_n 0, 1) := by decide +kernel
theorem dX12_takeConfig_54 : decode cX12_takeConfig 54 = .ok (.getfield 260, 3) := by decide +kernel
theorem dX12_takeConfig_57 : decode cX12_takeConfig 57 = .ok (.iconst 3, 1) := by decide +kernel
theorem dX12_takeConfig_58 : decode cX12_takeConfig 58 = .ok (.iload_n 2, 1) := by decide +kernel
theorem dX12_takeConfig_59 : decode cX12_takeConfig 59 = .ok (.imul, 1) := by decide +kernel
theorem dX12_takeConfig_60 : decode cX12_takeConfig 60 = .ok (.iaload, 1) := by decide +kernel
theorem dX12_takeConfig_61 : decode cX12_takeConfig 61 = .ok (.iastore, 1) := by decide +kernel
theorem dX12_takeConfig_62 : decode cX12_takeConfig 62 = .ok (.aload_n 0, 1) := by decide +kernel
theorem dX12_takeConfig_63 : decode cX12_takeConfig 63 = .ok (.getfield 110, 3) := by decide +kernel
theorem dX12_takeConfig_66 : decode cX12_takeConfig 66 = .ok (.iload_n 2, 1) := by decide +kernel
theorem dX12_takeConfig_67 : decode cX12_takeConfig 67 = .ok (.aload_n 0, 1) := by decide +kernel
theorem dX12_takeConfig_68 : decode cX12_takeConfig 68 = .ok (.getfield 260, 3) := by decide +kernel
theorem dX12_takeConfig_71 : decode cX12_takeConfig 71 = .ok (.iconst 3, 1) := by decide +kernel
theorem dX12_takeConfig_72 : decode cX12_takeConfig 72 = .ok (.iload_n 2, 1) := by decide +kernel
theorem dX12_takeConfig_73 : decode cX12_takeConfig 73 = .ok (.imul, 1) := by decide +kernel
theorem dX12_takeConfig_74 : decode cX12_takeConfig 74 = .ok (.iconst 1, 1) := by decide +kernel
theorem dX12_takeConfig_75 : decode cX12_takeConfig 75 = .ok (.iadd, 1) := by decide +kernel
theorem dX12_takeConfig_76 : decode cX12_takeConfig 76 = .ok (.iaload, 1) := by decide +kernel
theorem dX12_takeConfig_77 : decode cX12_takeConfig 77 = .ok (.iastore, 1) := by decide +kernel
theorem dX12_takeConfig_78 : decode cX12_takeConfig 78 = .ok (.aload_n 0, 1) := by decide +kernel
theorem dX12_takeConfig_79 : decode cX12_takeConfig 79 = .ok (.getfield 113, 3) := by decide +kernel
theorem dX12_takeConfig_82 : decode cX12_takeConfig 82 = .ok (.iload_n 2, 1) := by decide +kernel
theorem dX12_takeConfig_83 : decode cX12_takeConfig 83 = .ok (.aload_n 0, 1) := by decide +kernel
theorem dX12_takeConfig_84 : decode cX12_takeConfig 84 = .ok (.getfield 260, 3) := by decide +kernel
theorem dX12_takeConfig_87 : decode cX12_takeConfig 87 = .ok (.iconst 3, 1) := by decide +kernel
theorem dX12_takeConfig_88 : decode cX12_takeConfig 88 = .ok (.iload_n 2, 1) := by decide +kernel
theorem dX12_takeConfig_89 : decode cX12_takeConfig 89 = .ok (.imul, 1) := by decide +kernel
theorem dX12_takeConfig_90 : decode cX12_takeConfig 90 = .ok (.iconst 2, 1) := by decide +kernel
theorem dX12_takeConfig_91 : decode cX12_takeConfig 91 = .ok (.iadd, 1) := by decide +kernel
theorem dX12_takeConfig_92 : decode cX12_takeConfig 92 = .ok (.iaload, 1) := by decide +kernel
theorem dX12_takeConfig_93 : decode cX12_takeConfig 93 = .ok (.iastore, 1) := by decide +kernel
theorem dX12_takeConfig_94 : decode cX12_takeConfig 94 = .ok (.aload_n 0, 1) := by decide +kernel
theorem dX12_takeConfig_95 : decode cX12_takeConfig 95 = .ok (.getfield 116, 3) := by decide +kernel
theorem dX12_takeConfig_98 : decode cX12_takeConfig 98 = .ok (.iload_n 2, 1) := by decide +kernel
theorem dX12_takeConfig_99 : decode cX12_takeConfig 99 = .ok (.iload_n 1, 1) := by decide +kernel
theorem dX12_takeConfig_100 : decode cX12_takeConfig 100 = .ok (.iastore, 1) := by decide +kernel
theorem dX12_takeConfig_101 : decode cX12_takeConfig 101 = .ok (.iload_n 1, 1) := by decide +kernel
theorem dX12_takeConfig_102 : decode cX12_takeConfig 102 = .ok (.aload_n 0, 1) := by decide +kernel
theorem dX12_takeConfig_103 : decode cX12_takeConfig 103 = .ok (.getfield 113, 3) := by decide +kernel
theorem dX12_takeConfig_106 : decode cX12_takeConfig 106 = .ok (.iload_n 2, 1) := by decide +kernel
theorem dX12_takeConfig_107 : decode cX12_takeConfig 107 = .ok (.iaload, 1) := by decide +kernel
theorem dX12_takeConfig_108 : decode cX12_takeConfig 108 = .ok (.iadd, 1) := by decide +kernel
theorem dX12_takeConfig_109 : decode cX12_takeConfig 109 = .ok (.istore_n 1, 1) := by decide +kernel
theorem dX12_takeConfig_110 : decode cX12_takeConfig 110 = .ok (.iinc 2 1, 3) := by decide +kernel
theorem dX12_takeConfig_113 : decode cX12_takeConfig 113 = .ok (.goto (-73), 3) := by decide +kernel
theorem dX12_takeConfig_116 : decode cX12_takeConfig 116 = .ok (.iconst 0, 1) := by decide +kernel
theorem dX12_takeConfig_117 : decode cX12_takeConfig 117 = .ok (.istore_n 2, 1) := by decide +kernel
theorem dX12_takeConfig_118 : decode cX12_takeConfig 118 = .ok (.iload_n 2, 1) := by decide +kernel
theorem dX12_takeConfig_119 : decode cX12_takeConfig 119 = .ok (.aload_n 0, 1) := by decide +kernel
theorem dX12_takeConfig_120 : decode cX12_takeConfig 120 = .ok (.getfield 516, 3) := by decide +kernel
theorem dX12_takeConfig_123 : decode cX12_takeConfig 123 = .ok (.if_icmp .ge 60, 3) := by decide +kernel
theorem dX12_takeConfig_126 : decode cX12_takeConfig 126 = .ok (.aload_n 0, 1) := by decide +kernel
theorem dX12_takeConfig_127 : decode cX12_takeConfig 127 = .ok (.getfield 119, 3) := by decide +kernel
theorem dX12_takeConfig_130 : decode cX12_takeConfig 130 = .ok (.iload_n 2, 1) := by decide +kernel
theorem dX12_takeConfig_131 : decode cX12_takeConfig 131 = .ok (.aload_n 0, 1) := by decide +kernel
theorem dX12_takeConfig_132 : decode cX12_takeConfig 132 = .ok (.getfield 260, 3) := by decide +kernel
theorem dX12_takeConfig_135 : decode cX12_takeConfig 135 = .ok (.bipush 24, 2) := by decide +kernel
theorem dX12_takeConfig_137 : decode cX12_takeConfig 137 = .ok (.iconst 3, 1) := by decide +kernel
theorem dX12_takeConfig_138 : decode cX12_takeConfig 138 = .ok (.iload_n 2, 1) := by decide +kernel
theorem dX12_takeConfig_139 : decode cX12_takeConfig 139 = .ok (.imul, 1) := by decide +kernel
theorem dX12_takeConfig_140 : decode cX12_takeConfig 140 = .ok (.iadd, 1) := by decide +kernel
theorem dX12_takeConfig_141 : decode cX12_takeConfig 141 = .ok (.iaload, 1) := by decide +kernel
theorem dX12_takeConfig_142 : decode cX12_takeConfig 142 = .ok (.iastore, 1) := by decide +kernel
theorem dX12_takeConfig_143 : decode cX12_takeConfig 143 = .ok (.aload_n 0, 1) := by decide +kernel
theorem dX12_takeConfig_144 : decode cX12_takeConfig 144 = .ok (.getfield 122, 3) := by decide +kernel
theorem dX12_takeConfig_147 : decode cX12_takeConfig 147 = .ok (.iload_n 2, 1) := by decide +kernel
theorem dX12_takeConfig_148 : decode cX12_takeConfig 148 = .ok (.aload_n 0, 1) := by decide +kernel
theorem dX12_takeConfig_149 : decode cX12_takeConfig 149 = .ok (.getfield 260, 3) := by decide +kernel
theorem dX12_takeConfig_152 : decode cX12_takeConfig 152 = .ok (.bipush 25, 2) := by decide +kernel
theorem dX12_takeConfig_154 : decode cX12_takeConfig 154 = .ok (.iconst 3, 1) := by decide +kernel
theorem dX12_takeConfig_155 : decode cX12_takeConfig 155 = .ok (.iload_n 2, 1) := by decide +kernel
theorem dX12_takeConfig_156 : decode cX12_takeConfig 156 = .ok (.imul, 1) := by decide +kernel
theorem dX12_takeConfig_157 : decode cX12_takeConfig 157 = .ok (.iadd, 1) := by decide +kernel
theorem dX12_takeConfig_158 : decode cX12_takeConfig 158 = .ok (.iaload, 1) := by decide +kernel
theorem dX12_takeConfig_159 : decode cX12_takeConfig 159 = .ok (.iastore, 1) := by decide +kernel
theorem dX12_takeConfig_160 : decode cX12_takeConfig 160 = .ok (.aload_n 0, 1) := by decide +kernel
theorem dX12_takeConfig_161 : decode cX12_takeConfig 161 = .ok (.getfield 125, 3) := by decide +kernel
theorem dX12_takeConfig_164 : decode cX12_takeConfig 164 = .ok (.iload_n 2, 1) := by decide +kernel
theorem dX12_takeConfig_165 : decode cX12_takeConfig 165 = .ok (.aload_n 0, 1) := by decide +kernel
theorem dX12_takeConfig_166 : decode cX12_takeConfig 166 = .ok (.getfield 260, 3) := by decide +kernel
theorem dX12_takeConfig_169 : decode cX12_takeConfig 169 = .ok (.bipush 26, 2) := by decide +kernel
theorem dX12_takeConfig_171 : decode cX12_takeConfig 171 = .ok (.iconst 3, 1) := by decide +kernel
theorem dX12_takeConfig_172 : decode cX12_takeConfig 172 = .ok (.iload_n 2, 1) := by decide +kernel
theorem dX12_takeConfig_173 : decode cX12_takeConfig 173 = .ok (.imul, 1) := by decide +kernel
theorem dX12_takeConfig_174 : decode cX12_takeConfig 174 = .ok (.iadd, 1) := by decide +kernel
theorem dX12_takeConfig_175 : decode cX12_takeConfig 175 = .ok (.iaload, 1) := by decide +kernel
theorem dX12_takeConfig_176 : decode cX12_takeConfig 176 = .ok (.iastore, 1) := by decide +kernel
theorem dX12_takeConfig_177 : decode cX12_takeConfig 177 = .ok (.iinc 2 1, 3) := by decide +kernel
theorem dX12_takeConfig_180 : decode cX12_takeConfig 180 = .ok (.goto (-62), 3) := by decide +kernel
theorem dX12_takeConfig_183 : decode cX12_takeConfig 183 = .ok (.iconst 0, 1) := by decide +kernel
theorem dX12_takeConfig_184 : decode cX12_takeConfig 184 = .ok (.istore_n 2, 1) := by decide +kernel
theorem dX12_takeConfig_185 : decode cX12_takeConfig 185 = .ok (.iload_n 2, 1) := by decide +kernel
theorem dX12_takeConfig_186 : decode cX12_takeConfig 186 = .ok (.aload_n 0, 1) := by decide +kernel
theorem dX12_takeConfig_187 : decode cX12_takeConfig 187 = .ok (.getfield 519, 3) := by decide +kernel
theorem dX12_takeConfig_190 : decode cX12_takeConfig 190 = .ok (.if_icmp .ge 43, 3) := by decide +kernel
theorem dX12_takeConfig_193 : decode cX12_takeConfig 193 = .ok (.aload_n 0, 1) := by decide +kernel
theorem dX12_takeConfig_194 : decode cX12_takeConfig 194 = .ok (.getfield 128, 3) := by decide +kernel
theorem dX12_takeConfig_197 : decode cX12_takeConfig 197 = .ok (.iload_n 2, 1) := by decide +kernel
theorem dX12_takeConfig_198 : decode cX12_takeConfig 198 = .ok (.aload_n 0, 1) := by decide +kernel
theorem dX12_takeConfig_199 : decode cX12_takeConfig 199 = .ok (.getfield 260, 3) := by decide +kernel
theorem dX12_takeConfig_202 : decode cX12_takeConfig 202 = .ok (.bipush 72, 2) := by decide +kernel
theorem dX12_takeConfig_204 : decode cX12_takeConfig 204 = .ok (.iconst 2, 1) := by decide +kernel
theorem dX12_takeConfig_205 : decode cX12_takeConfig 205 = .ok (.iload_n 2, 1) := by decide +kernel
theorem dX12_takeConfig_206 : decode cX12_takeConfig 206 = .ok (.imul, 1) := by decide +kernel
theorem dX12_takeConfig_207 : decode cX12_takeConfig 207 = .ok (.iadd, 1) := by decide +kernel
theorem dX12_takeConfig_208 : decode cX12_takeConfig 208 = .ok (.iaload, 1) := by decide +kernel
theorem dX12_takeConfig_209 : decode cX12_takeConfig 209 = .ok (.iastore, 1) := by decide +kernel
theorem dX12_takeConfig_210 : decode cX12_takeConfig 210 = .ok (.aload_n 0, 1) := by decide +kernel
theorem dX12_takeConfig_211 : decode cX12_takeConfig 211 = .ok (.getfield 131, 3) := by decide +kernel
theorem dX12_takeConfig_214 : decode cX12_takeConfig 214 = .ok (.iload_n 2, 1) := by decide +kernel
theorem dX12_takeConfig_215 : decode cX12_takeConfig 215 = .ok (.aload_n 0, 1) := by decide +kernel
theorem dX12_takeConfig_216 : decode cX12_takeConfig 216 = .ok (.getfield 260, 3) := by decide +kernel
theorem dX12_takeConfig_219 : decode cX12_takeConfig 219 = .ok (.bipush 73, 2) := by decide +kernel
theorem dX12_takeConfig_221 : decode cX12_takeConfig 221 = .ok (.iconst 2, 1) := by decide +kernel
theorem dX12_takeConfig_222 : decode cX12_takeConfig 222 = .ok (.iload_n 2, 1) := by decide +kernel
theorem dX12_takeConfig_223 : decode cX12_takeConfig 223 = .ok (.imul, 1) := by decide +kernel
theorem dX12_takeConfig_224 : decode cX12_takeConfig 224 = .ok (.iadd, 1) := by decide +kernel
theorem dX12_takeConfig_225 : decode cX12_takeConfig 225 = .ok (.iaload, 1) := by decide +kernel
theorem dX12_takeConfig_226 : decode cX12_takeConfig 226 = .ok (.iastore, 1) := by decide +kernel
theorem dX12_takeConfig_227 : decode cX12_takeConfig 227 = .ok (.iinc 2 1, 3) := by decide +kernel
theorem dX12_takeConfig_230 : decode cX12_takeConfig 230 = .ok (.goto (-45), 3) := by decide +kernel
theorem dX12_takeConfig_233 : decode cX12_takeConfig 233 = .ok (.iconst 0, 1) := by decide +kernel
theorem dX12_takeConfig_234 : decode cX12_takeConfig 234 = .ok (.istore_n 2, 1) := by decide +kernel
theorem dX12_takeConfig_235 : decode cX12_takeConfig 235 = .ok (.iload_n 2, 1) := by decide +kernel
theorem dX12_takeConfig_236 : decode cX12_takeConfig 236 = .ok (.bipush 8, 2) := by decide +kernel
theorem dX12_takeConfig_238 : decode cX12_takeConfig 238 = .ok (.if_icmp .ge 44, 3) := by decide +kernel
theorem dX12_takeConfig_241 : decode cX12_takeConfig 241 = .ok (.iconst 0, 1) := by decide +kernel
theorem dX12_takeConfig_242 : decode cX12_takeConfig 242 = .ok (.istore_n 3, 1) := by decide +kernel
theorem dX12_takeConfig_243 : decode cX12_takeConfig 243 = .ok (.iload_n 3, 1) := by decide +kernel
theorem dX12_takeConfig_244 : decode cX12_takeConfig 244 = .ok (.bipush 8, 2) := by decide +kernel
theorem dX12_takeConfig_246 : decode cX12_takeConfig 246 = .ok (.if_icmp .ge 30, 3) := by decide +kernel
theorem dX12_takeConfig_249 : decode cX12_takeConfig 249 = .ok (.aload_n 0, 1) := by decide +kernel
theorem dX12_takeConfig_250 : decode cX12_takeConfig 250 = .ok (.getfield 134, 3) := by decide +kernel
theorem dX12_takeConfig_253 : decode cX12_takeConfig 253 = .ok (.bipush 8, 2) := by decide +kernel
theorem dX12_takeConfig_255 : decode cX12_takeConfig 255 = .ok (.iload_n 2, 1) := by decide +kernel
theorem dX12_takeConfig_256 : decode cX12_takeConfig 256 = .ok (.imul, 1) := by decide +kernel
theorem dX12_takeConfig_257 : decode cX12_takeConfig 257 = .ok (.iload_n 3, 1) := by decide +kernel
theorem dX12_takeConfig_258 : decode cX12_takeConfig 258 = .ok (.iadd, 1) := by decide +kernel
theorem dX12_takeConfig_259 : decode cX12_takeConfig 259 = .ok (.iload_n 3, 1) := by decide +kernel
theorem dX12_takeConfig_260 : decode cX12_takeConfig 260 = .ok (.iload_n 2, 1) := by decide +kernel
theorem dX12_takeConfig_261 : decode cX12_takeConfig 261 = .ok (.if_icmp .ne 7, 3) := by decide +kernel
theorem dX12_takeConfig_264 : decode cX12_takeConfig 264 = .ok (.iconst 1, 1) := by decide +kernel
theorem dX12_takeConfig_265 : decode cX12_takeConfig 265 = .ok (.goto 4, 3) := by decide +kernel
theorem dX12_takeConfig_268 : decode cX12_takeConfig 268 = .ok (.iconst 0, 1) := by decide +kernel
theorem dX12_takeConfig_269 : decode cX12_takeConfig 269 = .ok (.bastore, 1) := by decide +kernel
theorem dX12_takeConfig_270 : decode cX12_takeConfig 270 = .ok (.iinc 3 1, 3) := by decide +kernel
theorem dX12_takeConfig_273 : decode cX12_takeConfig 273 = .ok (.goto (-30), 3) := by decide +kernel
theorem dX12_takeConfig_276 : decode cX12_takeConfig 276 = .ok (.iinc 2 1, 3) := by decide +kernel
theorem dX12_takeConfig_279 : decode cX12_takeConfig 279 = .ok (.goto (-44), 3) := by decide +kernel
theorem dX12_takeConfig_282 : decode cX12_takeConfig 282 = .ok (.iconst 0, 1) := by decide +kernel
theorem dX12_takeConfig_283 : decode cX12_takeConfig 283 = .ok (.istore_n 2, 1) := by decide +kernel
theorem dX12_takeConfig_284 : decode cX12_takeConfig 284 = .ok (.iload_n 2, 1) := by decide +kernel
theorem dX12_takeConfig_285 : decode cX12_takeConfig 285 = .ok (.bipush 8, 2) := by decide +kernel
theorem dX12_takeConfig_287 : decode cX12_takeConfig 287 = .ok (.if_icmp .ge 79, 3) := by decide +kernel
theorem dX12_takeConfig_290 : decode cX12_takeConfig 290 = .ok (.iconst 0, 1) := by decide +kernel
theorem dX12_takeConfig_291 : decode cX12_takeConfig 291 = .ok (.istore_n 3, 1) := by decide +kernel
theorem dX12_takeConfig_292 : decode cX12_takeConfig 292 = .ok (.iload_n 3, 1) := by decide +kernel
theorem dX12_takeConfig_293 : decode cX12_takeConfig 293 = .ok (.aload_n 0, 1) := by decide +kernel
theorem dX12_takeConfig_294 : decode cX12_takeConfig 294 = .ok (.getfield 516, 3) := by decide +kernel
theorem dX12_takeConfig_297 : decode cX12_takeConfig 297 = .ok (.if_icmp .ge 63, 3) := by decide +kernel
theorem dX12_takeConfig_300 : decode cX12_takeConfig 300 = .ok (.iconst 0, 1) := by decide +kernel
theorem dX12_takeConfig_301 : decode cX12_takeConfig 301 = .ok (.istore 4, 2) := by decide +kernel
theorem dX12_takeConfig_303 : decode cX12_takeConfig 303 = .ok (.iload 4, 2) := by decide +kernel
theorem dX12_takeConfig_305 : decode cX12_takeConfig 305 = .ok (.bipush 8, 2) := by decide +kernel
theorem dX12_takeConfig_307 : decode cX12_takeConfig 307 = .ok (.if_icmp .ge 47, 3) := by decide +kernel
theorem dX12_takeConfig_310 : decode cX12_takeConfig 310 = .ok (.aload_n 0, 1) := by decide +kernel
theorem dX12_takeConfig_311 : decode cX12_takeConfig 311 = .ok (.getfield 134, 3) := by decide +kernel
theorem dX12_takeConfig_314 : decode cX12_takeConfig 314 = .ok (.bipush 8, 2) := by decide +kernel
theorem dX12_takeConfig_316 : decode cX12_takeConfig 316 = .ok (.aload_n 0, 1) := by decide +kernel
theorem dX12_takeConfig_317 : decode cX12_takeConfig 317 = .ok (.getfield 122, 3) := by decide +kernel
theorem dX12_takeConfig_320 : decode cX12_takeConfig 320 = .ok (.iload_n 3, 1) := by decide +kernel
theorem dX12_takeConfig_321 : decode cX12_takeConfig 321 = .ok (.iaload, 1) := by decide +kernel
theorem dX12_takeConfig_322 : decode cX12_takeConfig 322 = .ok (.imul, 1) := by decide +kernel
theorem dX12_takeConfig_323 : decode cX12_takeConfig 323 = .ok (.iload 4, 2) := by decide +kernel
theorem dX12_takeConfig_325 : decode cX12_takeConfig 325 = .ok (.iadd, 1) := by decide +kernel
theorem dX12_takeConfig_326 : decode cX12_takeConfig 326 = .ok (.baload, 1) := by decide +kernel
theorem dX12_takeConfig_327 : decode cX12_takeConfig 327 = .ok (.ifCond .eq 21, 3) := by decide +kernel
theorem dX12_takeConfig_330 : decode cX12_takeConfig 330 = .ok (.aload_n 0, 1) := by decide +kernel
theorem dX12_takeConfig_331 : decode cX12_takeConfig 331 = .ok (.getfield 134, 3) := by decide +kernel
theorem dX12_takeConfig_334 : decode cX12_takeConfig 334 = .ok (.bipush 8, 2) := by decide +kernel
theorem dX12_takeConfig_336 : decode cX12_takeConfig 336 = .ok (.aload_n 0, 1) := by decide +kernel
theorem dX12_takeConfig_337 : decode cX12_takeConfig 337 = .ok (.getfield 119, 3) := by decide +kernel
theorem dX12_takeConfig_340 : decode cX12_takeConfig 340 = .ok (.iload_n 3, 1) := by decide +kernel
theorem dX12_takeConfig_341 : decode cX12_takeConfig 341 = .ok (.iaload, 1) := by decide +kernel
theorem dX12_takeConfig_342 : decode cX12_takeConfig 342 = .ok (.imul, 1) := by decide +kernel
theorem dX12_takeConfig_343 : decode cX12_takeConfig 343 = .ok (.iload 4, 2) := by decide +kernel
theorem dX12_takeConfig_345 : decode cX12_takeConfig 345 = .ok (.iadd, 1) := by decide +kernel
theorem dX12_takeConfig_346 : decode cX12_takeConfig 346 = .ok (.iconst 1, 1) := by decide +kernel
theorem dX12_takeConfig_347 : decode cX12_takeConfig 347 = .ok (.bastore, 1) := by decide +kernel
theorem dX12_takeConfig_348 : decode cX12_takeConfig 348 = .ok (.iinc 4 1, 3) := by decide +kernel
theorem dX12_takeConfig_351 : decode cX12_takeConfig 351 = .ok (.goto (-48), 3) := by decide +kernel
theorem dX12_takeConfig_354 : decode cX12_takeConfig 354 = .ok (.iinc 3 1, 3) := by decide +kernel
theorem dX12_takeConfig_357 : decode cX12_takeConfig 357 = .ok (.goto (-65), 3) := by decide +kernel
theorem dX12_takeConfig_360 : decode cX12_takeConfig 360 = .ok (.iinc 2 1, 3) := by decide +kernel
theorem dX12_takeConfig_363 : decode cX12_takeConfig 363 = .ok (.goto (-79), 3) := by decide +kernel
theorem dX12_takeConfig_366 : decode cX12_takeConfig 366 = .ok (.return_, 1) := by decide +kernel
theorem cc_takeConfig : Cond.code yX12_takeConfig cX12_takeConfig 5 none ∈ rf_tb := rf_at 2079 (by decide +kernel) (by decide +kernel)
theorem cw_takeConfig : rf_wV yX12_takeConfig cX12_takeConfig 5 none 538 0 := ⟨⟨rf_at 2076 (by decide +kernel) (by decide +kernel), rf_at 2078 (by decide +kernel) (by decide +kernel), rf_sel (q := (yX12_takeConfig, 122)) 104 (by decide +kernel) (by decide +kernel), cc_takeConfig⟩, rfl, by decide +kernel⟩
noncomputable def lq_takeConfig_40 (x1 : Int32) (x2 : Int32) (ρ : rf_S) : Option ((Int32 × Int32 × rf_S) ⊕ (Int32 × Int32 × rf_S)) := (if (ρ.1 0 55) ≤ x2 then some (.inr (x1, x2, ρ)) else ix ((3:Int32) * x2) 200 (ix x2 8 (vl (rf_w ρ 28 x2.toNatClampNeg (ρ.1 79 ((3:Int32) * x2).toNatClampNeg)) (fun ρ_4 => ix (((3:Int32) * x2) + (1:Int32)) 200 (ix x2 8 (vl (rf_w ρ_4 29 x2.toNatClampNeg (ρ_4.1 79 (((3:Int32) * x2) + (1:Int32)).toNatClampNeg)) (fun ρ_5 => ix (((3:Int32) * x2) + (2:Int32)) 200 (ix x2 8 (vl (rf_w ρ_5 30 x2.toNatClampNeg (ρ_5.1 79 (((3:Int32) * x2) + (2:Int32)).toNatClampNeg)) (fun ρ_6 => ix x2 8 (vl (rf_w ρ_6 31 x2.toNatClampNeg x1) (fun ρ_7 => ix x2 8 (vl (x1 + (ρ_7.1 30 x2.toNatClampNeg)) (fun x1_8 => vl (x2 + (1:Int32)) (fun x2_9 => some (.inl (x1_8, x2_9, ρ_7)))))))))))))))))
noncomputable def lq_takeConfig_118 (x2 : Int32) (ρ : rf_S) : Option ((Int32 × rf_S) ⊕ (Int32 × rf_S)) := (if (ρ.1 0 60) ≤ x2 then some (.inr (x2, ρ)) else ix ((24:Int32) + ((3:Int32) * x2)) 200 (ix x2 16 (vl (rf_w ρ 32 x2.toNatClampNeg (ρ.1 79 ((24:Int32) + ((3:Int32) * x2)).toNatClampNeg)) (fun ρ_10 => ix ((25:Int32) + ((3:Int32) * x2)) 200 (ix x2 16 (vl (rf_w ρ_10 33 x2.toNatClampNeg (ρ_10.1 79 ((25:Int32) + ((3:Int32) * x2)).toNatClampNeg)) (fun ρ_11 => ix ((26:Int32) + ((3:Int32) * x2)) 200 (ix x2 16 (vl (rf_w ρ_11 34 x2.toNatClampNeg (ρ_11.1 79 ((26:Int32) + ((3:Int32) * x2)).toNatClampNeg)) (fun ρ_12 => vl (x2 + (1:Int32)) (fun x2_13 => some (.inl (x2_13, ρ_12)))))))))))))
noncomputable def lq_takeConfig_185 (x2 : Int32) (ρ : rf_S) : Option ((Int32 × rf_S) ⊕ (Int32 × rf_S)) := (if (ρ.1 0 64) ≤ x2 then some (.inr (x2, ρ)) else ix ((72:Int32) + ((2:Int32) * x2)) 200 (ix x2 32 (vl (rf_w ρ 35 x2.toNatClampNeg (ρ.1 79 ((72:Int32) + ((2:Int32) * x2)).toNatClampNeg)) (fun ρ_14 => ix ((73:Int32) + ((2:Int32) * x2)) 200 (ix x2 32 (vl (rf_w ρ_14 36 x2.toNatClampNeg (ρ_14.1 79 ((73:Int32) + ((2:Int32) * x2)).toNatClampNeg)) (fun ρ_15 => vl (x2 + (1:Int32)) (fun x2_16 => some (.inl (x2_16, ρ_15))))))))))
noncomputable def bq_takeConfig_269i243 (x2 : Int32) (x3 : Int32) (v1 : Int32) (v2 : Int32) (ρ : rf_S) : Option ((Int32 × rf_S) ⊕ (Int32 × rf_S)) := ix v1 64 (vl (rf_w ρ 37 v1.toNatClampNeg (vp_nar .boolean v2)) (fun ρ_17 => vl (x3 + (1:Int32)) (fun x3_18 => some (.inl (x3_18, ρ_17)))))
set_option maxHeartbeats 4000000 in
theorem wq_takeConfig_269i243 (C : rf_C D p s m args meth c cX12_takeConfig 5 none) {x2 : Int32} {x3 : Int32} {v1 : Int32} {v2 : Int32} {ρ ρ' : rf_S} {H : Heap} {locs : List Loc} {ls : Array Slot} {o : (Int32 × rf_S) ⊕ (Int32 × rf_S)} (h : bq_takeConfig_269i243 x2 x3 v1 v2 ρ = some o) (hP : Sum.elim (fun z : (Int32 × rf_S) => ∀ (H : Heap) (locs : List Loc) (ls : Array Slot), rf_G D h0 s z.2 H locs → lv_has ls 5 [(0, .ref h0), (2, .int x2), (3, .int z.1)] → W p l e ({ frames := 0, cells := 0, slots := 0, locals := 0 }) s m args below meth c H locs 0 0 (MQ below (rf_Q D h0 none ρ') args s 0 0 (rf_A h0)) (F0 m 243 ls [])) (fun z : (Int32 × rf_S) => ∀ (H : Heap) (locs : List Loc) (ls : Array Slot), rf_G D h0 s z.2 H locs → lv_has ls 5 [(0, .ref h0), (2, .int x2), (3, .int z.1)] → W p l e ({ frames := 0, cells := 0, slots := 0, locals := 0 }) s m args below meth c H locs 0 0 (MQ below (rf_Q D h0 none ρ') args s 0 0 (rf_A h0)) (F0 m 276 ls [])) o) (G : rf_G D h0 s ρ H locs) (hl : lv_has ls 5 [(0, .ref h0), (2, .int x2), (3, .int x3)]) : W p l e ({ frames := 0, cells := 0, slots := 0, locals := 0 }) s m args below meth c H locs 0 0 (MQ below (rf_Q D h0 none ρ') args s 0 0 (rf_A h0)) (F0 m 269 ls [.int v2, .int v1, .ref (h0 + 37)]) := by
  unfold bq_takeConfig_269i243 at h
  obtain ⟨hi, h⟩ := ix_some h
  refine rf_zast C G 37 rfl (by decide) rfl rfl hi dX12_takeConfig_269 (fun H locs G => ?_)
  refine rf_nm G h (fun ρ_17 G h => ?_)
  refine vl_ex h (fun x3_18 ey h => ?_)
  refine lv_iinc (v := x3_18) (lv' := [(3, .int x3_18), (0, .ref h0), (2, .int x2)]) C.1 C.2.1 dX12_takeConfig_270 hl (k := 2) rfl (by rw [ey]; rfl) (by decide) rfl (fun ls hl => ?_)
  refine lv_goto (tgt := 243) C.1 C.2.1 dX12_takeConfig_273 (by decide) ?_
  cases h
  exact hP _ _ _ G (lv_sub hl [1, 2, 0] rfl)
noncomputable def lq_takeConfig_243i235 (x2 : Int32) (x3 : Int32) (ρ : rf_S) : Option ((Int32 × rf_S) ⊕ (Int32 × rf_S)) := (if (8:Int32) ≤ x3 then some (.inr (x3, ρ)) else (if x3 = x2 then bq_takeConfig_269i243 x2 x3 (((8:Int32) * x2) + x3) (1:Int32) ρ else bq_takeConfig_269i243 x2 x3 (((8:Int32) * x2) + x3) (0:Int32) ρ))
noncomputable def eq_takeConfig_243i235 (x2 : Int32) (x3 : Int32) (ρ : rf_S) : Option ((Int32 × rf_S) ⊕ (Int32 × rf_S)) := vl (x2 + (1:Int32)) (fun x2_19 => some (.inl (x2_19, ρ)))
noncomputable def bq_takeConfig_243i235 (x2 : Int32) (x3 : Int32) (ρ : rf_S) : Option ((Int32 × rf_S) ⊕ (Int32 × rf_S)) := (lp (fun z : (Int32 × rf_S) => lq_takeConfig_243i235 x2 z.1 z.2) (x3, ρ)).bind (fun z => eq_takeConfig_243i235 x2 z.1 z.2)
set_option maxHeartbeats 4000000 in
theorem wq_takeConfig_243i235 (C : rf_C D p s m args meth c cX12_takeConfig 5 none) {x2 : Int32} {x3 : Int32} {ρ ρ' : rf_S} {H : Heap} {locs : List Loc} {ls : Array Slot} {o : (Int32 × rf_S) ⊕ (Int32 × rf_S)} (h : bq_takeConfig_243i235 x2 x3 ρ = some o) (hP : Sum.elim (fun z : (Int32 × rf_S) => ∀ (H : Heap) (locs : List Loc) (ls : Array Slot), rf_G D h0 s z.2 H locs → lv_has ls 5 [(0, .ref h0), (2, .int z.1)] → W p l e ({ frames := 0, cells := 0, slots := 0, locals := 0 }) s m args below meth c H locs 0 0 (MQ below (rf_Q D h0 none ρ') args s 0 0 (rf_A h0)) (F0 m 235 ls [])) (fun z : (Int32 × rf_S) => ∀ (H : Heap) (locs : List Loc) (ls : Array Slot), rf_G D h0 s z.2 H locs → lv_has ls 5 [(0, .ref h0), (2, .int z.1)] → W p l e ({ frames := 0, cells := 0, slots := 0, locals := 0 }) s m args below meth c H locs 0 0 (MQ below (rf_Q D h0 none ρ') args s 0 0 (rf_A h0)) (F0 m 282 ls [])) o) (G : rf_G D h0 s ρ H locs) (hl : lv_has ls 5 [(0, .ref h0), (2, .int x2), (3, .int x3)]) : W p l e ({ frames := 0, cells := 0, slots := 0, locals := 0 }) s m args below meth c H locs 0 0 (MQ below (rf_Q D h0 none ρ') args s 0 0 (rf_A h0)) (F0 m 243 ls []) := by
  unfold bq_takeConfig_243i235 at h
  obtain ⟨y, hy, h⟩ := bd_some h
  have hE : (fun z : (Int32 × rf_S) => ∀ (H : Heap) (locs : List Loc) (ls : Array Slot), rf_G D h0 s z.2 H locs → lv_has ls 5 [(0, .ref h0), (2, .int x2), (3, .int z.1)] → W p l e ({ frames := 0, cells := 0, slots := 0, locals := 0 }) s m args below meth c H locs 0 0 (MQ below (rf_Q D h0 none ρ') args s 0 0 (rf_A h0)) (F0 m 276 ls [])) y := by
    intro H locs ls G hl
    obtain ⟨x3, ρ⟩ := y
    dsimp only at h G hl
    unfold eq_takeConfig_243i235 at h
    refine vl_ex h (fun x2_19 ey h => ?_)
    refine lv_iinc (v := x2_19) (lv' := [(2, .int x2_19), (0, .ref h0), (3, .int x3)]) C.1 C.2.1 dX12_takeConfig_276 hl (k := 1) rfl (by rw [ey]; rfl) (by decide) rfl (fun ls hl => ?_)
    refine lv_goto (tgt := 235) C.1 C.2.1 dX12_takeConfig_279 (by decide) ?_
    cases h
    exact hP _ _ _ G (lv_sub hl [1, 0] rfl)
  refine lp_recE (fun z : (Int32 × rf_S) => ∀ (H : Heap) (locs : List Loc) (ls : Array Slot), rf_G D h0 s z.2 H locs → lv_has ls 5 [(0, .ref h0), (2, .int x2), (3, .int z.1)] → W p l e ({ frames := 0, cells := 0, slots := 0, locals := 0 }) s m args below meth c H locs 0 0 (MQ below (rf_Q D h0 none ρ') args s 0 0 (rf_A h0)) (F0 m 243 ls [])) (fun z : (Int32 × rf_S) => ∀ (H : Heap) (locs : List Loc) (ls : Array Slot), rf_G D h0 s z.2 H locs → lv_has ls 5 [(0, .ref h0), (2, .int x2), (3, .int z.1)] → W p l e ({ frames := 0, cells := 0, slots := 0, locals := 0 }) s m args below meth c H locs 0 0 (MQ below (rf_Q D h0 none ρ') args s 0 0 (rf_A h0)) (F0 m 276 ls [])) ?_ _ _ hy hE _ _ _ G hl
  clear hE hy G hl h hP
  intro z o h hP H locs ls G hl
  obtain ⟨x3, ρ⟩ := z
  dsimp only at h G hl
  unfold lq_takeConfig_243i235 at h
  refine lv_iload_n C.1 C.2.1 dX12_takeConfig_243 rfl (lv_at hl 2 rfl) ?_
  refine lv_bipush (v := (8:Int32)) C.1 C.2.1 dX12_takeConfig_244 (by decide) ?_
  refine lv_icmp_ge (tgt := 276) C.1 C.2.1 dX12_takeConfig_246 (by decide) (fun hc => ?_) (fun hc => ?_)
  · rw [if_pos hc] at h
    cases h
    exact hP _ _ _ G (lv_sub hl [0, 1, 2] rfl)
  · rw [if_neg hc] at h
    refine lv_aload_n C.1 C.2.1 dX12_takeConfig_249 rfl (lv_at hl 0 rfl) ?_
    refine gf_67 C G dX12_takeConfig_250 ?_
    refine lv_bipush (v := (8:Int32)) C.1 C.2.1 dX12_takeConfig_253 (by decide) ?_
    refine lv_iload_n C.1 C.2.1 dX12_takeConfig_255 rfl (lv_at hl 1 rfl) ?_
    refine lv_imul C.1 C.2.1 dX12_takeConfig_256 ?_
    refine lv_iload_n C.1 C.2.1 dX12_takeConfig_257 rfl (lv_at hl 2 rfl) ?_
    refine lv_iadd C.1 C.2.1 dX12_takeConfig_258 ?_
    refine lv_iload_n C.1 C.2.1 dX12_takeConfig_259 rfl (lv_at hl 2 rfl) ?_
    refine lv_iload_n C.1 C.2.1 dX12_takeConfig_260 rfl (lv_at hl 1 rfl) ?_
    refine lv_icmp_ne (tgt := 268) C.1 C.2.1 dX12_takeConfig_261 (by decide) (fun hc => ?_) (fun hc => ?_)
    · rw [if_neg hc] at h
      refine lv_iconst (v := (0:Int32)) C.1 C.2.1 dX12_takeConfig_268 (by decide) ?_
      exact wq_takeConfig_269i243 C h hP G (lv_sub hl [0, 1, 2] rfl)
    · rw [if_pos hc] at h
      refine lv_iconst (v := (1:Int32)) C.1 C.2.1 dX12_takeConfig_264 (by decide) ?_
      refine lv_goto (tgt := 269) C.1 C.2.1 dX12_takeConfig_265 (by decide) ?_
      exact wq_takeConfig_269i243 C h hP G (lv_sub hl [0, 1, 2] rfl)
noncomputable def lq_takeConfig_235 (x2 : Int32) (ρ : rf_S) : Option ((Int32 × rf_S) ⊕ (Int32 × rf_S)) := (if (8:Int32) ≤ x2 then some (.inr (x2, ρ)) else bq_takeConfig_243i235 x2 (0:Int32) ρ)
noncomputable def bq_takeConfig_348i303 (x2 : Int32) (x3 : Int32) (x4 : Int32) (ρ : rf_S) : Option ((Int32 × rf_S) ⊕ (Int32 × rf_S)) := vl (x4 + (1:Int32)) (fun x4_20 => some (.inl (x4_20, ρ)))
set_option maxHeartbeats 4000000 in
theorem wq_takeConfig_348i303 (C : rf_C D p s m args meth c cX12_takeConfig 5 none) {x2 : Int32} {x3 : Int32} {x4 : Int32} {ρ ρ' : rf_S} {H : Heap} {locs : List Loc} {ls : Array Slot} {o : (Int32 × rf_S) ⊕ (Int32 × rf_S)} (h : bq_takeConfig_348i303 x2 x3 x4 ρ = some o) (hP : Sum.elim (fun z : (Int32 × rf_S) => ∀ (H : Heap) (locs : List Loc) (ls : Array Slot), rf_G D h0 s z.2 H locs → lv_has ls 5 [(0, .ref h0), (2, .int x2), (3, .int x3), (4, .int z.1)] → W p l e ({ frames := 0, cells := 0, slots := 0, locals := 0 }) s m args below meth c H locs 0 0 (MQ below (rf_Q D h0 none ρ') args s 0 0 (rf_A h0)) (F0 m 303 ls [])) (fun z : (Int32 × rf_S) => ∀ (H : Heap) (locs : List Loc) (ls : Array Slot), rf_G D h0 s z.2 H locs → lv_has ls 5 [(0, .ref h0), (2, .int x2), (3, .int x3), (4, .int z.1)] → W p l e ({ frames := 0, cells := 0, slots := 0, locals := 0 }) s m args below meth c H locs 0 0 (MQ below (rf_Q D h0 none ρ') args s 0 0 (rf_A h0)) (F0 m 354 ls [])) o) (G : rf_G D h0 s ρ H locs) (hl : lv_has ls 5 [(0, .ref h0), (2, .int x2), (3, .int x3), (4, .int x4)]) : W p l e ({ frames := 0, cells := 0, slots := 0, locals := 0 }) s m args below meth c H locs 0 0 (MQ below (rf_Q D h0 none ρ') args s 0 0 (rf_A h0)) (F0 m 348 ls []) := by
  unfold bq_takeConfig_348i303 at h
  refine vl_ex h (fun x4_20 ey h => ?_)
  refine lv_iinc (v := x4_20) (lv' := [(4, .int x4_20), (0, .ref h0), (2, .int x2), (3, .int x3)]) C.1 C.2.1 dX12_takeConfig_348 hl (k := 3) rfl (by rw [ey]; rfl) (by decide) rfl (fun ls hl => ?_)
  refine lv_goto (tgt := 303) C.1 C.2.1 dX12_takeConfig_351 (by decide) ?_
  cases h
  exact hP _ _ _ G (lv_sub hl [1, 2, 3, 0] rfl)
noncomputable def lq_takeConfig_303i292 (x2 : Int32) (x3 : Int32) (x4 : Int32) (ρ : rf_S) : Option ((Int32 × rf_S) ⊕ (Int32 × rf_S)) := (if (8:Int32) ≤ x4 then some (.inr (x4, ρ)) else ix x3 16 (ix (((8:Int32) * (ρ.1 33 x3.toNatClampNeg)) + x4) 64 ((if (ρ.1 37 (((8:Int32) * (ρ.1 33 x3.toNatClampNeg)) + x4).toNatClampNeg) = 0 then bq_takeConfig_348i303 x2 x3 x4 ρ else ix x3 16 (ix (((8:Int32) * (ρ.1 32 x3.toNatClampNeg)) + x4) 64 (vl (rf_w ρ 37 (((8:Int32) * (ρ.1 32 x3.toNatClampNeg)) + x4).toNatClampNeg (vp_nar .boolean (1:Int32))) (fun ρ_21 => bq_takeConfig_348i303 x2 x3 x4 ρ_21)))))))
noncomputable def eq_takeConfig_303i292 (x2 : Int32) (x3 : Int32) (x4 : Int32) (ρ : rf_S) : Option ((Int32 × rf_S) ⊕ (Int32 × rf_S)) := vl (x3 + (1:Int32)) (fun x3_22 => some (.inl (x3_22, ρ)))
noncomputable def bq_takeConfig_303i292 (x2 : Int32) (x3 : Int32) (x4 : Int32) (ρ : rf_S) : Option ((Int32 × rf_S) ⊕ (Int32 × rf_S)) := (lp (fun z : (Int32 × rf_S) => lq_takeConfig_303i292 x2 x3 z.1 z.2) (x4, ρ)).bind (fun z => eq_takeConfig_303i292 x2 x3 z.1 z.2)
set_option maxHeartbeats 4000000 in
theorem wq_takeConfig_303i292 (C : rf_C D p s m args meth c cX12_takeConfig 5 none) {x2 : Int32} {x3 : Int32} {x4 : Int32} {ρ ρ' : rf_S} {H : Heap} {locs : List Loc} {ls : Array Slot} {o : (Int32 × rf_S) ⊕ (Int32 × rf_S)} (h : bq_takeConfig_303i292 x2 x3 x4 ρ = some o) (hP : Sum.elim (fun z : (Int32 × rf_S) => ∀ (H : Heap) (locs : List Loc) (ls : Array Slot), rf_G D h0 s z.2 H locs → lv_has ls 5 [(0, .ref h0), (2, .int x2), (3, .int z.1)] → W p l e ({ frames := 0, cells := 0, slots := 0, locals := 0 }) s m args below meth c H locs 0 0 (MQ below (rf_Q D h0 none ρ') args s 0 0 (rf_A h0)) (F0 m 292 ls [])) (fun z : (Int32 × rf_S) => ∀ (H : Heap) (locs : List Loc) (ls : Array Slot), rf_G D h0 s z.2 H locs → lv_has ls 5 [(0, .ref h0), (2, .int x2), (3, .int z.1)] → W p l e ({ frames := 0, cells := 0, slots := 0, locals := 0 }) s m args below meth c H locs 0 0 (MQ below (rf_Q D h0 none ρ') args s 0 0 (rf_A h0)) (F0 m 360 ls [])) o) (G : rf_G D h0 s ρ H locs) (hl : lv_has ls 5 [(0, .ref h0), (2, .int x2), (3, .int x3), (4, .int x4)]) : W p l e ({ frames := 0, cells := 0, slots := 0, locals := 0 }) s m args below meth c H locs 0 0 (MQ below (rf_Q D h0 none ρ') args s 0 0 (rf_A h0)) (F0 m 303 ls []) := by
  unfold bq_takeConfig_303i292 at h
  obtain ⟨y, hy, h⟩ := bd_some h
  have hE : (fun z : (Int32 × rf_S) => ∀ (H : Heap) (locs : List Loc) (ls : Array Slot), rf_G D h0 s z.2 H locs → lv_has ls 5 [(0, .ref h0), (2, .int x2), (3, .int x3), (4, .int z.1)] → W p l e ({ frames := 0, cells := 0, slots := 0, locals := 0 }) s m args below meth c H locs 0 0 (MQ below (rf_Q D h0 none ρ') args s 0 0 (rf_A h0)) (F0 m 354 ls [])) y := by
    intro H locs ls G hl
    obtain ⟨x4, ρ⟩ := y
    dsimp only at h G hl
    unfold eq_takeConfig_303i292 at h
    refine vl_ex h (fun x3_22 ey h => ?_)
    refine lv_iinc (v := x3_22) (lv' := [(3, .int x3_22), (0, .ref h0), (2, .int x2), (4, .int x4)]) C.1 C.2.1 dX12_takeConfig_354 hl (k := 2) rfl (by rw [ey]; rfl) (by decide) rfl (fun ls hl => ?_)
    refine lv_goto (tgt := 292) C.1 C.2.1 dX12_takeConfig_357 (by decide) ?_
    cases h
    exact hP _ _ _ G (lv_sub hl [1, 2, 0] rfl)
  refine lp_recE (fun z : (Int32 × rf_S) => ∀ (H : Heap) (locs : List Loc) (ls : Array Slot), rf_G D h0 s z.2 H locs → lv_has ls 5 [(0, .ref h0), (2, .int x2), (3, .int x3), (4, .int z.1)] → W p l e ({ frames := 0, cells := 0, slots := 0, locals := 0 }) s m args below meth c H locs 0 0 (MQ below (rf_Q D h0 none ρ') args s 0 0 (rf_A h0)) (F0 m 303 ls [])) (fun z : (Int32 × rf_S) => ∀ (H : Heap) (locs : List Loc) (ls : Array Slot), rf_G D h0 s z.2 H locs → lv_has ls 5 [(0, .ref h0), (2, .int x2), (3, .int x3), (4, .int z.1)] → W p l e ({ frames := 0, cells := 0, slots := 0, locals := 0 }) s m args below meth c H locs 0 0 (MQ below (rf_Q D h0 none ρ') args s 0 0 (rf_A h0)) (F0 m 354 ls [])) ?_ _ _ hy hE _ _ _ G hl
  clear hE hy G hl h hP
  intro z o h hP H locs ls G hl
  obtain ⟨x4, ρ⟩ := z
  dsimp only at h G hl
  unfold lq_takeConfig_303i292 at h
  refine lv_iload C.1 C.2.1 dX12_takeConfig_303 (lv_at hl 3 rfl) ?_
  refine lv_bipush (v := (8:Int32)) C.1 C.2.1 dX12_takeConfig_305 (by decide) ?_
  refine lv_icmp_ge (tgt := 354) C.1 C.2.1 dX12_takeConfig_307 (by decide) (fun hc => ?_) (fun hc => ?_)
  · rw [if_pos hc] at h
    cases h
    exact hP _ _ _ G (lv_sub hl [0, 1, 2, 3] rfl)
  · rw [if_neg hc] at h
    refine lv_aload_n C.1 C.2.1 dX12_takeConfig_310 rfl (lv_at hl 0 rfl) ?_
    refine gf_67 C G dX12_takeConfig_311 ?_
    refine lv_bipush (v := (8:Int32)) C.1 C.2.1 dX12_takeConfig_314 (by decide) ?_
    refine lv_aload_n C.1 C.2.1 dX12_takeConfig_316 rfl (lv_at hl 0 rfl) ?_
    refine gf_62 C G dX12_takeConfig_317 ?_
    refine lv_iload_n C.1 C.2.1 dX12_takeConfig_320 rfl (lv_at hl 2 rfl) ?_
    obtain ⟨hi, h⟩ := ix_some h
    refine rf_iald C G 33 rfl (by decide) rfl rfl hi dX12_takeConfig_321 ?_
    refine lv_imul C.1 C.2.1 dX12_takeConfig_322 ?_
    refine lv_iload C.1 C.2.1 dX12_takeConfig_323 (lv_at hl 3 rfl) ?_
    refine lv_iadd C.1 C.2.1 dX12_takeConfig_325 ?_
    obtain ⟨hi, h⟩ := ix_some h
    refine rf_zald C G 37 rfl (by decide) rfl rfl hi dX12_takeConfig_326 ?_
    refine lv_if_eq (tgt := 348) C.1 C.2.1 dX12_takeConfig_327 (by decide) (fun hc => ?_) (fun hc => ?_)
    · rw [if_pos hc] at h
      exact wq_takeConfig_348i303 C h hP G (lv_sub hl [0, 1, 2, 3] rfl)
    · rw [if_neg hc] at h
      refine lv_aload_n C.1 C.2.1 dX12_takeConfig_330 rfl (lv_at hl 0 rfl) ?_
      refine gf_67 C G dX12_takeConfig_331 ?_
      refine lv_bipush (v := (8:Int32)) C.1 C.2.1 dX12_takeConfig_334 (by decide) ?_
      refine lv_aload_n C.1 C.2.1 dX12_takeConfig_336 rfl (lv_at hl 0 rfl) ?_
      refine gf_61 C G dX12_takeConfig_337 ?_
      refine lv_iload_n C.1 C.2.1 dX12_takeConfig_340 rfl (lv_at hl 2 rfl) ?_
      obtain ⟨hi, h⟩ := ix_some h
      refine rf_iald C G 32 rfl (by decide) rfl rfl hi dX12_takeConfig_341 ?_
      refine lv_imul C.1 C.2.1 dX12_takeConfig_342 ?_
      refine lv_iload C.1 C.2.1 dX12_takeConfig_343 (lv_at hl 3 rfl) ?_
      refine lv_iadd C.1 C.2.1 dX12_takeConfig_345 ?_
      refine lv_iconst (v := (1:Int32)) C.1 C.2.1 dX12_takeConfig_346 (by decide) ?_
      obtain ⟨hi, h⟩ := ix_some h
      refine rf_zast C G 37 rfl (by decide) rfl rfl hi dX12_takeConfig_347 (fun H locs G => ?_)
      refine rf_nm G h (fun ρ_21 G h => ?_)
      exact wq_takeConfig_348i303 C h hP G (lv_sub hl [0, 1, 2, 3] rfl)
noncomputable def lq_takeConfig_292i284 (x2 : Int32) (x3 : Int32) (ρ : rf_S) : Option ((Int32 × rf_S) ⊕ (Int32 × rf_S)) := (if (ρ.1 0 60) ≤ x3 then some (.inr (x3, ρ)) else bq_takeConfig_303i292 x2 x3 (0:Int32) ρ)
noncomputable def eq_takeConfig_292i284 (x2 : Int32) (x3 : Int32) (ρ : rf_S) : Option ((Int32 × rf_S) ⊕ (Int32 × rf_S)) := vl (x2 + (1:Int32)) (fun x2_23 => some (.inl (x2_23, ρ)))
noncomputable def bq_takeConfig_292i284 (x2 : Int32) (x3 : Int32) (ρ : rf_S) : Option ((Int32 × rf_S) ⊕ (Int32 × rf_S)) := (lp (fun z : (Int32 × rf_S) => lq_takeConfig_292i284 x2 z.1 z.2) (x3, ρ)).bind (fun z => eq_takeConfig_292i284 x2 z.1 z.2)
set_option maxHeartbeats 4000000 in
theorem wq_takeConfig_292i284 (C : rf_C D p s m args meth c cX12_takeConfig 5 none) {x2 : Int32} {x3 : Int32} {ρ ρ' : rf_S} {H : Heap} {locs : List Loc} {ls : Array Slot} {o : (Int32 × rf_S) ⊕ (Int32 × rf_S)} (h : bq_takeConfig_292i284 x2 x3 ρ = some o) (hP : Sum.elim (fun z : (Int32 × rf_S) => ∀ (H : Heap) (locs : List Loc) (ls : Array Slot), rf_G D h0 s z.2 H locs → lv_has ls 5 [(0, .ref h0), (2, .int z.1)] → W p l e ({ frames := 0, cells := 0, slots := 0, locals := 0 }) s m args below meth c H locs 0 0 (MQ below (rf_Q D h0 none ρ') args s 0 0 (rf_A h0)) (F0 m 284 ls [])) (fun z : (Int32 × rf_S) => ∀ (H : Heap) (locs : List Loc) (ls : Array Slot), rf_G D h0 s z.2 H locs → lv_has ls 5 [(0, .ref h0), (2, .int z.1)] → W p l e ({ frames := 0, cells := 0, slots := 0, locals := 0 }) s m args below meth c H locs 0 0 (MQ below (rf_Q D h0 none ρ') args s 0 0 (rf_A h0)) (F0 m 366 ls [])) o) (G : rf_G D h0 s ρ H locs) (hl : lv_has ls 5 [(0, .ref h0), (2, .int x2), (3, .int x3)]) : W p l e ({ frames := 0, cells := 0, slots := 0, locals := 0 }) s m args below meth c H locs 0 0 (MQ below (rf_Q D h0 none ρ') args s 0 0 (rf_A h0)) (F0 m 292 ls []) := by
  unfold bq_takeConfig_292i284 at h
  obtain ⟨y, hy, h⟩ := bd_some h
  have hE : (fun z : (Int32 × rf_S) => ∀ (H : Heap) (locs : List Loc) (ls : Array Slot), rf_G D h0 s z.2 H locs → lv_has ls 5 [(0, .ref h0), (2, .int x2), (3, .int z.1)] → W p l e ({ frames := 0, cells := 0, slots := 0, locals := 0 }) s m args below meth c H locs 0 0 (MQ below (rf_Q D h0 none ρ') args s 0 0 (rf_A h0)) (F0 m 360 ls [])) y := by
    intro H locs ls G hl
    obtain ⟨x3, ρ⟩ := y
    dsimp only at h G hl
    unfold eq_takeConfig_292i284 at h
    refine vl_ex h (fun x2_23 ey h => ?_)
    refine lv_iinc (v := x2_23) (lv' := [(2, .int x2_23), (0, .ref h0), (3, .int x3)]) C.1 C.2.1 dX12_takeConfig_360 hl (k := 1) rfl (by rw [ey]; rfl) (by decide) rfl (fun ls hl => ?_)
    refine lv_goto (tgt := 284) C.1 C.2.1 dX12_takeConfig_363 (by decide) ?_
    cases h
    exact hP _ _ _ G (lv_sub hl [1, 0] rfl)
  refine lp_recE (fun z : (Int32 × rf_S) => ∀ (H : Heap) (locs : List Loc) (ls : Array Slot), rf_G D h0 s z.2 H locs → lv_has ls 5 [(0, .ref h0), (2, .int x2), (3, .int z.1)] → W p l e ({ frames := 0, cells := 0, slots := 0, locals := 0 }) s m args below meth c H locs 0 0 (MQ below (rf_Q D h0 none ρ') args s 0 0 (rf_A h0)) (F0 m 292 ls [])) (fun z : (Int32 × rf_S) => ∀ (H : Heap) (locs : List Loc) (ls : Array Slot), rf_G D h0 s z.2 H locs → lv_has ls 5 [(0, .ref h0), (2, .int x2), (3, .int z.1)] → W p l e ({ frames := 0, cells := 0, slots := 0, locals := 0 }) s m args below meth c H locs 0 0 (MQ below (rf_Q D h0 none ρ') args s 0 0 (rf_A h0)) (F0 m 360 ls [])) ?_ _ _ hy hE _ _ _ G hl
  clear hE hy G hl h hP
  intro z o h hP H locs ls G hl
  obtain ⟨x3, ρ⟩ := z
  dsimp only at h G hl
  unfold lq_takeConfig_292i284 at h
  refine lv_iload_n C.1 C.2.1 dX12_takeConfig_292 rfl (lv_at hl 2 rfl) ?_
  refine lv_aload_n C.1 C.2.1 dX12_takeConfig_293 rfl (lv_at hl 0 rfl) ?_
  refine gf_60 C G dX12_takeConfig_294 ?_
  refine lv_icmp_ge (tgt := 360) C.1 C.2.1 dX12_takeConfig_297 (by decide) (fun hc => ?_) (fun hc => ?_)
  · rw [if_pos hc] at h
    cases h
    exact hP _ _ _ G (lv_sub hl [0, 1, 2] rfl)
  · rw [if_neg hc] at h
    refine lv_iconst (v := (0:Int32)) C.1 C.2.1 dX12_takeConfig_300 (by decide) ?_
    refine lv_istore (lv' := [(4, .int (0:Int32)), (0, .ref h0), (2, .int x2), (3, .int x3)]) C.1 C.2.1 dX12_takeConfig_301 hl (by decide) rfl (fun ls hl => ?_)
    exact wq_takeConfig_303i292 C h hP G (lv_sub hl [1, 2, 3, 0] rfl)
noncomputable def lq_takeConfig_284 (x2 : Int32) (ρ : rf_S) : Option ((Int32 × rf_S) ⊕ (Int32 × rf_S)) := (if (8:Int32) ≤ x2 then some (.inr (x2, ρ)) else bq_takeConfig_292i284 x2 (0:Int32) ρ)
noncomputable def eq_takeConfig_284 (x2 : Int32) (ρ : rf_S) : Option (rf_S) := some ρ
noncomputable def bq_takeConfig_284 (x2 : Int32) (ρ : rf_S) : Option (rf_S) := (lp (fun z : (Int32 × rf_S) => lq_takeConfig_284  z.1 z.2) (x2, ρ)).bind (fun z => eq_takeConfig_284  z.1 z.2)
set_option maxHeartbeats 4000000 in
theorem wq_takeConfig_284 (C : rf_C D p s m args meth c cX12_takeConfig 5 none) {x2 : Int32} {ρ ρ' : rf_S} {H : Heap} {locs : List Loc} {ls : Array Slot} (h : bq_takeConfig_284 x2 ρ = some ρ') (G : rf_G D h0 s ρ H locs) (hl : lv_has ls 5 [(0, .ref h0), (2, .int x2)]) : W p l e ({ frames := 0, cells := 0, slots := 0, locals := 0 }) s m args below meth c H locs 0 0 (MQ below (rf_Q D h0 none ρ') args s 0 0 (rf_A h0)) (F0 m 284 ls []) := by
  unfold bq_takeConfig_284 at h
  obtain ⟨y, hy, h⟩ := bd_some h
  have hE : (fun z : (Int32 × rf_S) => ∀ (H : Heap) (locs : List Loc) (ls : Array Slot), rf_G D h0 s z.2 H locs → lv_has ls 5 [(0, .ref h0), (2, .int z.1)] → W p l e ({ frames := 0, cells := 0, slots := 0, locals := 0 }) s m args below meth c H locs 0 0 (MQ below (rf_Q D h0 none ρ') args s 0 0 (rf_A h0)) (F0 m 366 ls [])) y := by
    intro H locs ls G hl
    obtain ⟨x2, ρ⟩ := y
    dsimp only at h G hl
    unfold eq_takeConfig_284 at h
    exact rf_vret C G h dX12_takeConfig_366
  refine lp_recE (fun z : (Int32 × rf_S) => ∀ (H : Heap) (locs : List Loc) (ls : Array Slot), rf_G D h0 s z.2 H locs → lv_has ls 5 [(0, .ref h0), (2, .int z.1)] → W p l e ({ frames := 0, cells := 0, slots := 0, locals := 0 }) s m args below meth c H locs 0 0 (MQ below (rf_Q D h0 none ρ') args s 0 0 (rf_A h0)) (F0 m 284 ls [])) (fun z : (Int32 × rf_S) => ∀ (H : Heap) (locs : List Loc) (ls : Array Slot), rf_G D h0 s z.2 H locs → lv_has ls 5 [(0, .ref h0), (2, .int z.1)] → W p l e ({ frames := 0, cells := 0, slots := 0, locals := 0 }) s m args below meth c H locs 0 0 (MQ below (rf_Q D h0 none ρ') args s 0 0 (rf_A h0)) (F0 m 366 ls [])) ?_ _ _ hy hE _ _ _ G hl
  clear hE hy G hl h
  intro z o h hP H locs ls G hl
  obtain ⟨x2, ρ⟩ := z
  dsimp only at h G hl
  unfold lq_takeConfig_284 at h
  refine lv_iload_n C.1 C.2.1 dX12_takeConfig_284 rfl (lv_at hl 1 rfl) ?_
  refine lv_bipush (v := (8:Int32)) C.1 C.2.1 dX12_takeConfig_285 (by decide) ?_
  refine lv_icmp_ge (tgt := 366) C.1 C.2.1 dX12_takeConfig_287 (by decide) (fun hc => ?_) (fun hc => ?_)
  · rw [if_pos hc] at h
    cases h
    exact hP _ _ _ G (lv_sub hl [0, 1] rfl)
  · rw [if_neg hc] at h
    refine lv_iconst (v := (0:Int32)) C.1 C.2.1 dX12_takeConfig_290 (by decide) ?_
    refine lv_istore_n (lv' := [(3, .int (0:Int32)), (0, .ref h0), (2, .int x2)]) C.1 C.2.1 dX12_takeConfig_291 rfl hl (by decide) rfl (fun ls hl => ?_)
    exact wq_takeConfig_292i284 C h hP G (lv_sub hl [1, 2, 0] rfl)
noncomputable def eq_takeConfig_235 (x2 : Int32) (ρ : rf_S) : Option (rf_S) := bq_takeConfig_284 (0:Int32) ρ
noncomputable def bq_takeConfig_235 (x2 : Int32) (ρ : rf_S) : Option (rf_S) := (lp (fun z : (Int32 × rf_S) => lq_takeConfig_235  z.1 z.2) (x2, ρ)).bind (fun z => eq_takeConfig_235  z.1 z.2)
set_option maxHeartbeats 4000000 in
theorem wq_takeConfig_235 (C : rf_C D p s m args meth c cX12_takeConfig 5 none) {x2 : Int32} {ρ ρ' : rf_S} {H : Heap} {locs : List Loc} {ls : Array Slot} (h : bq_takeConfig_235 x2 ρ = some ρ') (G : rf_G D h0 s ρ H locs) (hl : lv_has ls 5 [(0, .ref h0), (2, .int x2)]) : W p l e ({ frames := 0, cells := 0, slots := 0, locals := 0 }) s m args below meth c H locs 0 0 (MQ below (rf_Q D h0 none ρ') args s 0 0 (rf_A h0)) (F0 m 235 ls []) := by
  unfold bq_takeConfig_235 at h
  obtain ⟨y, hy, h⟩ := bd_some h
  have hE : (fun z : (Int32 × rf_S) => ∀ (H : Heap) (locs : List Loc) (ls : Array Slot), rf_G D h0 s z.2 H locs → lv_has ls 5 [(0, .ref h0), (2, .int z.1)] → W p l e ({ frames := 0, cells := 0, slots := 0, locals := 0 }) s m args below meth c H locs 0 0 (MQ below (rf_Q D h0 none ρ') args s 0 0 (rf_A h0)) (F0 m 282 ls [])) y := by
    intro H locs ls G hl
    obtain ⟨x2, ρ⟩ := y
    dsimp only at h G hl
    unfold eq_takeConfig_235 at h
    refine lv_iconst (v := (0:Int32)) C.1 C.2.1 dX12_takeConfig_282 (by decide) ?_
    refine lv_istore_n (lv' := [(2, .int (0:Int32)), (0, .ref h0)]) C.1 C.2.1 dX12_takeConfig_283 rfl hl (by decide) rfl (fun ls hl => ?_)
    exact wq_takeConfig_284 C h G (lv_sub hl [1, 0] rfl)
  refine lp_recE (fun z : (Int32 × rf_S) => ∀ (H : Heap) (locs : List Loc) (ls : Array Slot), rf_G D h0 s z.2 H locs → lv_has ls 5 [(0, .ref h0), (2, .int z.1)] → W p l e ({ frames := 0, cells := 0, slots := 0, locals := 0 }) s m args below meth c H locs 0 0 (MQ below (rf_Q D h0 none ρ') args s 0 0 (rf_A h0)) (F0 m 235 ls [])) (fun z : (Int32 × rf_S) => ∀ (H : Heap) (locs : List Loc) (ls : Array Slot), rf_G D h0 s z.2 H locs → lv_has ls 5 [(0, .ref h0), (2, .int z.1)] → W p l e ({ frames := 0, cells := 0, slots := 0, locals := 0 }) s m args below meth c H locs 0 0 (MQ below (rf_Q D h0 none ρ') args s 0 0 (rf_A h0)) (F0 m 282 ls [])) ?_ _ _ hy hE _ _ _ G hl
  clear hE hy G hl h
  intro z o h hP H locs ls G hl
  obtain ⟨x2, ρ⟩ := z
  dsimp only at h G hl
  unfold lq_takeConfig_235 at h
  refine lv_iload_n C.1 C.2.1 dX12_takeConfig_235 rfl (lv_at hl 1 rfl) ?_
  refine lv_bipush (v := (8:Int32)) C.1 C.2.1 dX12_takeConfig_236 (by decide) ?_
  refine lv_icmp_ge (tgt := 282) C.1 C.2.1 dX12_takeConfig_238 (by decide) (fun hc => ?_) (fun hc => ?_)
  · rw [if_pos hc] at h
    cases h
    exact hP _ _ _ G (lv_sub hl [0, 1] rfl)
  · rw [if_neg hc] at h
    refine lv_iconst (v := (0:Int32)) C.1 C.2.1 dX12_takeConfig_241 (by decide) ?_
    refine lv_istore_n (lv' := [(3, .int (0:Int32)), (0, .ref h0), (2, .int x2)]) C.1 C.2.1 dX12_takeConfig_242 rfl hl (by decide) rfl (fun ls hl => ?_)
    exact wq_takeConfig_243i235 C h hP G (lv_sub hl [1, 2, 0] rfl)
noncomputable def eq_takeConfig_185 (x2 : Int32) (ρ : rf_S) : Option (rf_S) := bq_takeConfig_235 (0:Int32) ρ
noncomputable def bq_takeConfig_185 (x2 : Int32) (ρ : rf_S) : Option (rf_S) := (lp (fun z : (Int32 × rf_S) => lq_takeConfig_185  z.1 z.2) (x2, ρ)).bind (fun z => eq_takeConfig_185  z.1 z.2)
set_option maxHeartbeats 4000000 in
theorem wq_takeConfig_185 (C : rf_C D p s m args meth c cX12_takeConfig 5 none) {x2 : Int32} {ρ ρ' : rf_S} {H : Heap} {locs : List Loc} {ls : Array Slot} (h : bq_takeConfig_185 x2 ρ = some ρ') (G : rf_G D h0 s ρ H locs) (hl : lv_has ls 5 [(0, .ref h0), (2, .int x2)]) : W p l e ({ frames := 0, cells := 0, slots := 0, locals := 0 }) s m args below meth c H locs 0 0 (MQ below (rf_Q D h0 none ρ') args s 0 0 (rf_A h0)) (F0 m 185 ls []) := by
  unfold bq_takeConfig_185 at h
  obtain ⟨y, hy, h⟩ := bd_some h
  have hE : (fun z : (Int32 × rf_S) => ∀ (H : Heap) (locs : List Loc) (ls : Array Slot), rf_G D h0 s z.2 H locs → lv_has ls 5 [(0, .ref h0), (2, .int z.1)] → W p l e ({ frames := 0, cells := 0, slots := 0, locals := 0 }) s m args below meth c H locs 0 0 (MQ below (rf_Q D h0 none ρ') args s 0 0 (rf_A h0)) (F0 m 233 ls [])) y := by
    intro H locs ls G hl
    obtain ⟨x2, ρ⟩ := y
    dsimp only at h G hl
    unfold eq_takeConfig_185 at h
    refine lv_iconst (v := (0:Int32)) C.1 C.2.1 dX12_takeConfig_233 (by decide) ?_
    refine lv_istore_n (lv' := [(2, .int (0:Int32)), (0, .ref h0)]) C.1 C.2.1 dX12_takeConfig_234 rfl hl (by decide) rfl (fun ls hl => ?_)
    exact wq_takeConfig_235 C h G (lv_sub hl [1, 0] rfl)
  refine lp_recE (fun z : (Int32 × rf_S) => ∀ (H : Heap) (locs : List Loc) (ls : Array Slot), rf_G D h0 s z.2 H locs → lv_has ls 5 [(0, .ref h0), (2, .int z.1)] → W p l e ({ frames := 0, cells := 0, slots := 0, locals := 0 }) s m args below meth c H locs 0 0 (MQ below (rf_Q D h0 none ρ') args s 0 0 (rf_A h0)) (F0 m 185 ls [])) (fun z : (Int32 × rf_S) => ∀ (H : Heap) (locs : List Loc) (ls : Array Slot), rf_G D h0 s z.2 H locs → lv_has ls 5 [(0, .ref h0), (2, .int z.1)] → W p l e ({ frames := 0, cells := 0, slots := 0, locals := 0 }) s m args below meth c H locs 0 0 (MQ below (rf_Q D h0 none ρ') args s 0 0 (rf_A h0)) (F0 m 233 ls [])) ?_ _ _ hy hE _ _ _ G hl
  clear hE hy G hl h
  intro z o h hP H locs ls G hl
  obtain ⟨x2, ρ⟩ := z
  dsimp only at h G hl
  unfold lq_takeConfig_185 at h
  refine lv_iload_n C.1 C.2.1 dX12_takeConfig_185 rfl (lv_at hl 1 rfl) ?_
  refine lv_aload_n C.1 C.2.1 dX12_takeConfig_186 rfl (lv_at hl 0 rfl) ?_
  refine gf_64 C G dX12_takeConfig_187 ?_
  refine lv_icmp_ge (tgt := 233) C.1 C.2.1 dX12_takeConfig_190 (by decide) (fun hc => ?_) (fun hc => ?_)
  · rw [if_pos hc] at h
    cases h
    exact hP _ _ _ G (lv_sub hl [0, 1] rfl)
  · rw [if_neg hc] at h
    refine lv_aload_n C.1 C.2.1 dX12_takeConfig_193 rfl (lv_at hl 0 rfl) ?_
    refine gf_65 C G dX12_takeConfig_194 ?_
    refine lv_iload_n C.1 C.2.1 dX12_takeConfig_197 rfl (lv_at hl 1 rfl) ?_
    refine lv_aload_n C.1 C.2.1 dX12_takeConfig_198 rfl (lv_at hl 0 rfl) ?_
    refine gf_117 C G dX12_takeConfig_199 ?_
    refine lv_bipush (v := (72:Int32)) C.1 C.2.1 dX12_takeConfig_202 (by decide) ?_
    refine lv_iconst (v := (2:Int32)) C.1 C.2.1 dX12_takeConfig_204 (by decide) ?_
    refine lv_iload_n C.1 C.2.1 dX12_takeConfig_205 rfl (lv_at hl 1 rfl) ?_
    refine lv_imul C.1 C.2.1 dX12_takeConfig_206 ?_
    refine lv_iadd C.1 C.2.1 dX12_takeConfig_207 ?_
    obtain ⟨hi, h⟩ := ix_some h
    refine rf_iald C G 79 rfl (by decide) rfl rfl hi dX12_takeConfig_208 ?_
    obtain ⟨hi, h⟩ := ix_some h
    refine rf_iast C G 35 rfl (by decide) rfl rfl hi dX12_takeConfig_209 (fun H locs G => ?_)
    refine rf_nm G h (fun ρ_14 G h => ?_)
    refine lv_aload_n C.1 C.2.1 dX12_takeConfig_210 rfl (lv_at hl 0 rfl) ?_
    refine gf_66 C G dX12_takeConfig_211 ?_
    refine lv_iload_n C.1 C.2.1 dX12_takeConfig_214 rfl (lv_at hl 1 rfl) ?_
    refine lv_aload_n C.1 C.2.1 dX12_takeConfig_215 rfl (lv_at hl 0 rfl) ?_
    refine gf_117 C G dX12_takeConfig_216 ?_
    refine lv_bipush (v := (73:Int32)) C.1 C.2.1 dX12_takeConfig_219 (by decide) ?_
    refine lv_iconst (v := (2:Int32)) C.1 C.2.1 dX12_takeConfig_221 (by decide) ?_
    refine lv_iload_n C.1 C.2.1 dX12_takeConfig_222 rfl (lv_at hl 1 rfl) ?_
    refine lv_imul C.1 C.2.1 dX12_takeConfig_223 ?_
    refine lv_iadd C.1 C.2.1 dX12_takeConfig_224 ?_
    obtain ⟨hi, h⟩ := ix_some h
    refine rf_iald C G 79 rfl (by decide) rfl rfl hi dX12_takeConfig_225 ?_
    obtain ⟨hi, h⟩ := ix_some h
    refine rf_iast C G 36 rfl (by decide) rfl rfl hi dX12_takeConfig_226 (fun H locs G => ?_)
    refine rf_nm G h (fun ρ_15 G h => ?_)
    refine vl_ex h (fun x2_16 ey h => ?_)
    refine lv_iinc (v := x2_16) (lv' := [(2, .int x2_16), (0, .ref h0)]) C.1 C.2.1 dX12_takeConfig_227 hl (k := 1) rfl (by rw [ey]; rfl) (by decide) rfl (fun ls hl => ?_)
    refine lv_goto (tgt := 185) C.1 C.2.1 dX12_takeConfig_230 (by decide) ?_
    cases h
    exact hP _ _ _ G (lv_sub hl [1, 0] rfl)
noncomputable def eq_takeConfig_118 (x2 : Int32) (ρ : rf_S) : Option (rf_S) := bq_takeConfig_185 (0:Int32) ρ
noncomputable def bq_takeConfig_118 (x2 : Int32) (ρ : rf_S) : Option (rf_S) := (lp (fun z : (Int32 × rf_S) => lq_takeConfig_118  z.1 z.2) (x2, ρ)).bind (fun z => eq_takeConfig_118  z.1 z.2)
set_option maxHeartbeats 4000000 in
theorem wq_takeConfig_118 (C : rf_C D p s m args meth c cX12_takeConfig 5 none) {x2 : Int32} {ρ ρ' : rf_S} {H : Heap} {locs : List Loc} {ls : Array Slot} (h : bq_takeConfig_118 x2 ρ = some ρ') (G : rf_G D h0 s ρ H locs) (hl : lv_has ls 5 [(0, .ref h0), (2, .int x2)]) : W p l e ({ frames := 0, cells := 0, slots := 0, locals := 0 }) s m args below meth c H locs 0 0 (MQ below (rf_Q D h0 none ρ') args s 0 0 (rf_A h0)) (F0 m 118 ls []) := by
  unfold bq_takeConfig_118 at h
  obtain ⟨y, hy, h⟩ := bd_some h
  have hE : (fun z : (Int32 × rf_S) => ∀ (H : Heap) (locs : List Loc) (ls : Array Slot), rf_G D h0 s z.2 H locs → lv_has ls 5 [(0, .ref h0), (2, .int z.1)] → W p l e ({ frames := 0, cells := 0, slots := 0, locals := 0 }) s m args below meth c H locs 0 0 (MQ below (rf_Q D h0 none ρ') args s 0 0 (rf_A h0)) (F0 m 183 ls [])) y := by
    intro H locs ls G hl
    obtain ⟨x2, ρ⟩ := y
    dsimp only at h G hl
    unfold eq_takeConfig_118 at h
    refine lv_iconst (v := (0:Int32)) C.1 C.2.1 dX12_takeConfig_183 (by decide) ?_
    refine lv_istore_n (lv' := [(2, .int (0:Int32)), (0, .ref h0)]) C.1 C.2.1 dX12_takeConfig_184 rfl hl (by decide) rfl (fun ls hl => ?_)
    exact wq_takeConfig_185 C h G (lv_sub hl [1, 0] rfl)
  refine lp_recE (fun z : (Int32 × rf_S) => ∀ (H : Heap) (locs : List Loc) (ls : Array Slot), rf_G D h0 s z.2 H locs → lv_has ls 5 [(0, .ref h0), (2, .int z.1)] → W p l e ({ frames := 0, cells := 0, slots := 0, locals := 0 }) s m args below meth c H locs 0 0 (MQ below (rf_Q D h0 none ρ') args s 0 0 (rf_A h0)) (F0 m 118 ls [])) (fun z : (Int32 × rf_S) => ∀ (H : Heap) (locs : List Loc) (ls : Array Slot), rf_G D h0 s z.2 H locs → lv_has ls 5 [(0, .ref h0), (2, .int z.1)] → W p l e ({ frames := 0, cells := 0, slots := 0, locals := 0 }) s m args below meth c H locs 0 0 (MQ below (rf_Q D h0 none ρ') args s 0 0 (rf_A h0)) (F0 m 183 ls [])) ?_ _ _ hy hE _ _ _ G hl
  clear hE hy G hl h
  intro z o h hP H locs ls G hl
  obtain ⟨x2, ρ⟩ := z
  dsimp only at h G hl
  unfold lq_takeConfig_118 at h
  refine lv_iload_n C.1 C.2.1 dX12_takeConfig_118 rfl (lv_at hl 1 rfl) ?_
  refine lv_aload_n C.1 C.2.1 dX12_takeConfig_119 rfl (lv_at hl 0 rfl) ?_
  refine gf_60 C G dX12_takeConfig_120 ?_
  refine lv_icmp_ge (tgt := 183) C.1 C.2.1 dX12_takeConfig_123 (by decide) (fun hc => ?_) (fun hc => ?_)
  · rw [if_pos hc] at h
    cases h
    exact hP _ _ _ G (lv_sub hl [0, 1] rfl)
  · rw [if_neg hc] at h
    refine lv_aload_n C.1 C.2.1 dX12_takeConfig_126 rfl (lv_at hl 0 rfl) ?_
    refine gf_61 C G dX12_takeConfig_127 ?_
    refine lv_iload_n C.1 C.2.1 dX12_takeConfig_130 rfl (lv_at hl 1 rfl) ?_
    refine lv_aload_n C.1 C.2.1 dX12_takeConfig_131 rfl (lv_at hl 0 rfl) ?_
    refine gf_117 C G dX12_takeConfig_132 ?_
    refine lv_bipush (v := (24:Int32)) C.1 C.2.1 dX12_takeConfig_135 (by decide) ?_
    refine lv_iconst (v := (3:Int32)) C.1 C.2.1 dX12_takeConfig_137 (by decide) ?_
    refine lv_iload_n C.1 C.2.1 dX12_takeConfig_138 rfl (lv_at hl 1 rfl) ?_
    refine lv_imul C.1 C.2.1 dX12_takeConfig_139 ?_
    refine lv_iadd C.1 C.2.1 dX12_takeConfig_140 ?_
    obtain ⟨hi, h⟩ := ix_some h
    refine rf_iald C G 79 rfl (by decide) rfl rfl hi dX12_takeConfig_141 ?_
    obtain ⟨hi, h⟩ := ix_some h
    refine rf_iast C G 32 rfl (by decide) rfl rfl hi dX12_takeConfig_142 (fun H locs G => ?_)
    refine rf_nm G h (fun ρ_10 G h => ?_)
    refine lv_aload_n C.1 C.2.1 dX12_takeConfig_143 rfl (lv_at hl 0 rfl) ?_
    refine gf_62 C G dX12_takeConfig_144 ?_
    refine lv_iload_n C.1 C.2.1 dX12_takeConfig_147 rfl (lv_at hl 1 rfl) ?_
    refine lv_aload_n C.1 C.2.1 dX12_takeConfig_148 rfl (lv_at hl 0 rfl) ?_
    refine gf_117 C G dX12_takeConfig_149 ?_
    refine lv_bipush (v := (25:Int32)) C.1 C.2.1 dX12_takeConfig_152 (by decide) ?_
    refine lv_iconst (v := (3:Int32)) C.1 C.2.1 dX12_takeConfig_154 (by decide) ?_
    refine lv_iload_n C.1 C.2.1 dX12_takeConfig_155 rfl (lv_at hl 1 rfl) ?_
    refine lv_imul C.1 C.2.1 dX12_takeConfig_156 ?_
    refine lv_iadd C.1 C.2.1 dX12_takeConfig_157 ?_
    obtain ⟨hi, h⟩ := ix_some h
    refine rf_iald C G 79 rfl (by decide) rfl rfl hi dX12_takeConfig_158 ?_
    obtain ⟨hi, h⟩ := ix_some h
    refine rf_iast C G 33 rfl (by decide) rfl rfl hi dX12_takeConfig_159 (fun H locs G => ?_)
    refine rf_nm G h (fun ρ_11 G h => ?_)
    refine lv_aload_n C.1 C.2.1 dX12_takeConfig_160 rfl (lv_at hl 0 rfl) ?_
    refine gf_63 C G dX12_takeConfig_161 ?_
    refine lv_iload_n C.1 C.2.1 dX12_takeConfig_164 rfl (lv_at hl 1 rfl) ?_
    refine lv_aload_n C.1 C.2.1 dX12_takeConfig_165 rfl (lv_at hl 0 rfl) ?_
    refine gf_117 C G dX12_takeConfig_166 ?_
    refine lv_bipush (v := (26:Int32)) C.1 C.2.1 dX12_takeConfig_169 (by decide) ?_
    refine lv_iconst (v := (3:Int32)) C.1 C.2.1 dX12_takeConfig_171 (by decide) ?_
    refine lv_iload_n C.1 C.2.1 dX12_takeConfig_172 rfl (lv_at hl 1 rfl) ?_
    refine lv_imul C.1 C.2.1 dX12_takeConfig_173 ?_
    refine lv_iadd C.1 C.2.1 dX12_takeConfig_174 ?_
    obtain ⟨hi, h⟩ := ix_some h
    refine rf_iald C G 79 rfl (by decide) rfl rfl hi dX12_takeConfig_175 ?_
    obtain ⟨hi, h⟩ := ix_some h
    refine rf_iast C G 34 rfl (by decide) rfl rfl hi dX12_takeConfig_176 (fun H locs G => ?_)
    refine rf_nm G h (fun ρ_12 G h => ?_)
    refine vl_ex h (fun x2_13 ey h => ?_)
    refine lv_iinc (v := x2_13) (lv' := [(2, .int x2_13), (0, .ref h0)]) C.1 C.2.1 dX12_takeConfig_177 hl (k := 1) rfl (by rw [ey]; rfl) (by decide) rfl (fun ls hl => ?_)
    refine lv_goto (tgt := 118) C.1 C.2.1 dX12_takeConfig_180 (by decide) ?_
    cases h
    exact hP _ _ _ G (lv_sub hl [1, 0] rfl)
noncomputable def eq_takeConfig_40 (x1 : Int32) (x2 : Int32) (ρ : rf_S) : Option (rf_S) := bq_takeConfig_118 (0:Int32) ρ
noncomputable def bq_takeConfig_40 (x1 : Int32) (x2 : Int32) (ρ : rf_S) : Option (rf_S) := (lp (fun z : (Int32 × Int32 × rf_S) => lq_takeConfig_40  z.1 z.2.1 z.2.2) (x1, x2, ρ)).bind (fun z => eq_takeConfig_40  z.1 z.2.1 z.2.2)
set_option maxHeartbeats 4000000 in
theorem wq_takeConfig_40 (C : rf_C D p s m args meth c cX12_takeConfig 5 none) {x1 : Int32} {x2 : Int32} {ρ ρ' : rf_S} {H : Heap} {locs : List Loc} {ls : Array Slot} (h : bq_takeConfig_40 x1 x2 ρ = some ρ') (G : rf_G D h0 s ρ H locs) (hl : lv_has ls 5 [(0, .ref h0), (1, .int x1), (2, .int x2)]) : W p l e ({ frames := 0, cells := 0, slots := 0, locals := 0 }) s m args below meth c H locs 0 0 (MQ below (rf_Q D h0 none ρ') args s 0 0 (rf_A h0)) (F0 m 40 ls []) := by
  unfold bq_takeConfig_40 at h
  obtain ⟨y, hy, h⟩ := bd_some h
  have hE : (fun z : (Int32 × Int32 × rf_S) => ∀ (H : Heap) (locs : List Loc) (ls : Array Slot), rf_G D h0 s z.2.2 H locs → lv_has ls 5 [(0, .ref h0), (1, .int z.1), (2, .int z.2.1)] → W p l e ({ frames := 0, cells := 0, slots := 0, locals := 0 }) s m args below meth c H locs 0 0 (MQ below (rf_Q D h0 none ρ') args s 0 0 (rf_A h0)) (F0 m 116 ls [])) y := by
    intro H locs ls G hl
    obtain ⟨x1, x2, ρ⟩ := y
    dsimp only at h G hl
    unfold eq_takeConfig_40 at h
    refine lv_iconst (v := (0:Int32)) C.1 C.2.1 dX12_takeConfig_116 (by decide) ?_
    refine lv_istore_n (lv' := [(2, .int (0:Int32)), (0, .ref h0), (1, .int x1)]) C.1 C.2.1 dX12_takeConfig_117 rfl hl (by decide) rfl (fun ls hl => ?_)
    exact wq_takeConfig_118 C h G (lv_sub hl [1, 0] rfl)
  refine lp_recE (fun z : (Int32 × Int32 × rf_S) => ∀ (H : Heap) (locs : List Loc) (ls : Array Slot), rf_G D h0 s z.2.2 H locs → lv_has ls 5 [(0, .ref h0), (1, .int z.1), (2, .int z.2.1)] → W p l e ({ frames := 0, cells := 0, slots := 0, locals := 0 }) s m args below meth c H locs 0 0 (MQ below (rf_Q D h0 none ρ') args s 0 0 (rf_A h0)) (F0 m 40 ls [])) (fun z : (Int32 × Int32 × rf_S) => ∀ (H : Heap) (locs : List Loc) (ls : Array Slot), rf_G D h0 s z.2.2 H locs → lv_has ls 5 [(0, .ref h0), (1, .int z.1), (2, .int z.2.1)] → W p l e ({ frames := 0, cells := 0, slots := 0, locals := 0 }) s m args below meth c H locs 0 0 (MQ below (rf_Q D h0 none ρ') args s 0 0 (rf_A h0)) (F0 m 116 ls [])) ?_ _ _ hy hE _ _ _ G hl
  clear hE hy G hl h
  intro z o h hP H locs ls G hl
  obtain ⟨x1, x2, ρ⟩ := z
  dsimp only at h G hl
  unfold lq_takeConfig_40 at h
  refine lv_iload_n C.1 C.2.1 dX12_takeConfig_40 rfl (lv_at hl 2 rfl) ?_
  refine lv_aload_n C.1 C.2.1 dX12_takeConfig_41 rfl (lv_at hl 0 rfl) ?_
  refine gf_55 C G dX12_takeConfig_42 ?_
  refine lv_icmp_ge (tgt := 116) C.1 C.2.1 dX12_takeConfig_45 (by decide) (fun hc => ?_) (fun hc => ?_)
  · rw [if_pos hc] at h
    cases h
    exact hP _ _ _ G (lv_sub hl [0, 1, 2] rfl)
  · rw [if_neg hc] at h
    refine lv_aload_n C.1 C.2.1 dX12_takeConfig_48 rfl (lv_at hl 0 rfl) ?_
    refine gf_56 C G dX12_takeConfig_49 ?_
    refine lv_iload_n C.1 C.2.1 dX12_takeConfig_52 rfl (lv_at hl 2 rfl) ?_
    refine lv_aload_n C.1 C.2.1 dX12_takeConfig_53 rfl (lv_at hl 0 rfl) ?_
    refine gf_117 C G dX12_takeConfig_54 ?_
    refine lv_iconst (v := (3:Int32)) C.1 C.2.1 dX12_takeConfig_57 (by decide) ?_
    refine lv_iload_n C.1 C.2.1 dX12_takeConfig_58 rfl (lv_at hl 2 rfl) ?_
    refine lv_imul C.1 C.2.1 dX12_takeConfig_59 ?_
    obtain ⟨hi, h⟩ := ix_some h
    refine rf_iald C G 79 rfl (by decide) rfl rfl hi dX12_takeConfig_60 ?_
    obtain ⟨hi, h⟩ := ix_some h
    refine rf_iast C G 28 rfl (by decide) rfl rfl hi dX12_takeConfig_61 (fun H locs G => ?_)
    refine rf_nm G h (fun ρ_4 G h => ?_)
    refine lv_aload_n C.1 C.2.1 dX12_takeConfig_62 rfl (lv_at hl 0 rfl) ?_
    refine gf_57 C G dX12_takeConfig_63 ?_
    refine lv_iload_n C.1 C.2.1 dX12_takeConfig_66 rfl (lv_at hl 2 rfl) ?_
    refine lv_aload_n C.1 C.2.1 dX12_takeConfig_67 rfl (lv_at hl 0 rfl) ?_
    refine gf_117 C G dX12_takeConfig_68 ?_
    refine lv_iconst (v := (3:Int32)) C.1 C.2.1 dX12_takeConfig_71 (by decide) ?_
    refine lv_iload_n C.1 C.2.1 dX12_takeConfig_72 rfl (lv_at hl 2 rfl) ?_
    refine lv_imul C.1 C.2.1 dX12_takeConfig_73 ?_
    refine lv_iconst (v := (1:Int32)) C.1 C.2.1 dX12_takeConfig_74 (by decide) ?_
    refine lv_iadd C.1 C.2.1 dX12_takeConfig_75 ?_
    obtain ⟨hi, h⟩ := ix_some h
    refine rf_iald C G 79 rfl (by decide) rfl rfl hi dX12_takeConfig_76 ?_
    obtain ⟨hi, h⟩ := ix_some h
    refine rf_iast C G 29 rfl (by decide) rfl rfl hi dX12_takeConfig_77 (fun H locs G => ?_)
    refine rf_nm G h (fun ρ_5 G h => ?_)
    refine lv_aload_n C.1 C.2.1 dX12_takeConfig_78 rfl (lv_at hl 0 rfl) ?_
    refine gf_58 C G dX12_takeConfig_79 ?_
    refine lv_iload_n C.1 C.2.1 dX12_takeConfig_82 rfl (lv_at hl 2 rfl) ?_
    refine lv_aload_n C.1 C.2.1 dX12_takeConfig_83 rfl (lv_at hl 0 rfl) ?_
    refine gf_117 C G dX12_takeConfig_84 ?_
    refine lv_iconst (v := (3:Int32)) C.1 C.2.1 dX12_takeConfig_87 (by decide) ?_
    refine lv_iload_n C.1 C.2.1 dX12_takeConfig_88 rfl (lv_at hl 2 rfl) ?_
    refine lv_imul C.1 C.2.1 dX12_takeConfig_89 ?_
    refine lv_iconst (v := (2:Int32)) C.1 C.2.1 dX12_takeConfig_90 (by decide) ?_
    refine lv_iadd C.1 C.2.1 dX12_takeConfig_91 ?_
    obtain ⟨hi, h⟩ := ix_some h
    refine rf_iald C G 79 rfl (by decide) rfl rfl hi dX12_takeConfig_92 ?_
    obtain ⟨hi, h⟩ := ix_some h
    refine rf_iast C G 30 rfl (by decide) rfl rfl hi dX12_takeConfig_93 (fun H locs G => ?_)
    refine rf_nm G h (fun ρ_6 G h => ?_)
    refine lv_aload_n C.1 C.2.1 dX12_takeConfig_94 rfl (lv_at hl 0 rfl) ?_
    refine gf_59 C G dX12_takeConfig_95 ?_
    refine lv_iload_n C.1 C.2.1 dX12_takeConfig_98 rfl (lv_at hl 2 rfl) ?_
    refine lv_iload_n C.1 C.2.1 dX12_takeConfig_99 rfl (lv_at hl 1 rfl) ?_
    obtain ⟨hi, h⟩ := ix_some h
    refine rf_iast C G 31 rfl (by decide) rfl rfl hi dX12_takeConfig_100 (fun H locs G => ?_)
    refine rf_nm G h (fun ρ_7 G h => ?_)
    refine lv_iload_n C.1 C.2.1 dX12_takeConfig_101 rfl (lv_at hl 1 rfl) ?_
    refine lv_aload_n C.1 C.2.1 dX12_takeConfig_102 rfl (lv_at hl 0 rfl) ?_
    refine gf_58 C G dX12_takeConfig_103 ?_
    refine lv_iload_n C.1 C.2.1 dX12_takeConfig_106 rfl (lv_at hl 2 rfl) ?_
    obtain ⟨hi, h⟩ := ix_some h
    refine rf_iald C G 30 rfl (by decide) rfl rfl hi dX12_takeConfig_107 ?_
    refine lv_iadd C.1 C.2.1 dX12_takeConfig_108 ?_
    refine vt_i h (fun x1_8 h => ?_)
    refine lv_istore_n (lv' := [(1, .int x1_8), (0, .ref h0), (2, .int x2)]) C.1 C.2.1 dX12_takeConfig_109 rfl hl (by decide) rfl (fun ls hl => ?_)
    refine vl_ex h (fun x2_9 ey h => ?_)
    refine lv_iinc (v := x2_9) (lv' := [(2, .int x2_9), (1, .int x1_8), (0, .ref h0)]) C.1 C.2.1 dX12_takeConfig_110 hl (k := 2) rfl (by rw [ey]; rfl) (by decide) rfl (fun ls hl => ?_)
    refine lv_goto (tgt := 40) C.1 C.2.1 dX12_takeConfig_113 (by decide) ?_
    cases h
    exact hP _ _ _ G (lv_sub hl [2, 1, 0] rfl)
noncomputable def bq_takeConfig_0  (ρ : rf_S) : Option (rf_S) := ix (196:Int32) 200 (vl (rf_w ρ 0 55 (ρ.1 79 (196:Int32).toNatClampNeg)) (fun ρ_1 => ix (197:Int32) 200 (vl (rf_w ρ_1 0 60 (ρ_1.1 79 (197:Int32).toNatClampNeg)) (fun ρ_2 => ix (198:Int32) 200 (vl (rf_w ρ_2 0 64 (ρ_2.1 79 (198:Int32).toNatClampNeg)) (fun ρ_3 => bq_takeConfig_40 (0:Int32) (0:Int32) ρ_3))))))
set_option maxHeartbeats 4000000 in
theorem wq_takeConfig_0 (C : rf_C D p s m args meth c cX12_takeConfig 5 none) {ρ ρ' : rf_S} {H : Heap} {locs : List Loc} {ls : Array Slot} (h : bq_takeConfig_0 ρ = some ρ') (G : rf_G D h0 s ρ H locs) (hl : lv_has ls 5 [(0, .ref h0)]) : W p l e ({ frames := 0, cells := 0, slots := 0, locals := 0 }) s m args below meth c H locs 0 0 (MQ below (rf_Q D h0 none ρ') args s 0 0 (rf_A h0)) (F0 m 0 ls []) := by
  unfold bq_takeConfig_0 at h
  refine lv_aload_n C.1 C.2.1 dX12_takeConfig_0 rfl (lv_at hl 0 rfl) ?_
  refine lv_aload_n C.1 C.2.1 dX12_takeConfig_1 rfl (lv_at hl 0 rfl) ?_
  refine gf_117 C G dX12_takeConfig_2 ?_
  refine lv_sipush (v := (196:Int32)) C.1 C.2.1 dX12_takeConfig_5 (by decide) ?_
  obtain ⟨hi, h⟩ := ix_some h
  refine rf_iald C G 79 rfl (by decide) rfl rfl hi dX12_takeConfig_8 ?_
  refine pf_55 C G dX12_takeConfig_9 (fun H locs G => ?_)
  refine rf_nm G h (fun ρ_1 G h => ?_)
  refine lv_aload_n C.1 C.2.1 dX12_takeConfig_12 rfl (lv_at hl 0 rfl) ?_
  refine lv_aload_n C.1 C.2.1 dX12_takeConfig_13 rfl (lv_at hl 0 rfl) ?_
  refine gf_117 C G dX12_takeConfig_14 ?_
  refine lv_sipush (v := (197:Int32)) C.1 C.2.1 dX12_takeConfig_17 (by decide) ?_
  obtain ⟨hi, h⟩ := ix_some h
  refine rf_iald C G 79 rfl (by decide) rfl rfl hi dX12_takeConfig_20 ?_
  refine pf_60 C G dX12_takeConfig_21 (fun H locs G => ?_)
  refine rf_nm G h (fun ρ_2 G h => ?_)
  refine lv_aload_n C.1 C.2.1 dX12_takeConfig_24 rfl (lv_at hl 0 rfl) ?_
  refine lv_aload_n C.1 C.2.1 dX12_takeConfig_25 rfl (lv_at hl 0 rfl) ?_
  refine gf_117 C G dX12_takeConfig_26 ?_
  refine lv_sipush (v := (198:Int32)) C.1 C.2.1 dX12_takeConfig_29 (by decide) ?_
  obtain ⟨hi, h⟩ := ix_some h
  refine rf_iald C G 79 rfl (by decide) rfl rfl hi dX12_takeConfig_32 ?_
  refine pf_64 C G dX12_takeConfig_33 (fun H locs G => ?_)
  refine rf_nm G h (fun ρ_3 G h => ?_)
  refine lv_iconst (v := (0:Int32)) C.1 C.2.1 dX12_takeConfig_36 (by decide) ?_
  refine lv_istore_n (lv' := [(1, .int (0:Int32)), (0, .ref h0)]) C.1 C.2.1 dX12_takeConfig_37 rfl hl (by decide) rfl (fun ls hl => ?_)
  refine lv_iconst (v := (0:Int32)) C.1 C.2.1 dX12_takeConfig_38 (by decide) ?_
  refine lv_istore_n (lv' := [(2, .int (0:Int32)), (1, .int (0:Int32)), (0, .ref h0)]) C.1 C.2.1 dX12_takeConfig_39 rfl hl (by decide) rfl (fun ls hl => ?_)
  exact wq_takeConfig_40 C h G (lv_sub hl [2, 1, 0] rfl)
noncomputable def fq_takeConfig  (ρ : rf_S) : Option (rf_S) := bq_takeConfig_0 ρ
theorem kq_takeConfig (l : Launch) (D : rf_D) (h0 : Nat) {ρ ρ' : rf_S} (h : fq_takeConfig ρ = some ρ') : rf_Met l D h0 yX12_takeConfig cX12_takeConfig 5 none 0 0 [.ref h0] ρ none ρ' :=
  rf_of rfl cc_takeConfig (Nat.le_of_ble_eq_true rfl) (fun p e s m args below meth c ls C G hl => wq_takeConfig_0 C h G hl)
abbrev cX12_measureAll : ByteArray := prog_14_method_59_code
def yX12_measureAll : MethodName := ⟨RX12, "measureAll", "()V"⟩
theorem dX12_measureAll_0 : decode cX12_measureAll 0 = .ok (.aload_n 0, 1) := by decide +kernel
theorem dX12_measureAll_1 : decode cX12_measureAll 1 = .ok (.iconst 4, 1) := by decide +kernel
theorem dX12_measureAll_2 : decode cX12_measureAll 2 = .ok (.aload_n 0, 1) := by decide +kernel
theorem dX12_measureAll_3 : decode cX12_measureAll 3 = .ok (.sipush 16384, 3) := by decide +kernel
theorem dX12_measureAll_6 : decode cX12_measureAll 6 = .ok (.aload_n 0, 1) := by decide +kernel
theorem dX12_measureAll_7 : decode cX12_measureAll 7 = .ok (.getfield 104, 3) := by decide +kernel
theorem dX12_measureAll_10 : decode cX12_measureAll 10 = .ok (.bipush 8, 2) := by decide +kernel
theorem dX12_measureAll_12 : decode cX12_measureAll 12 = .ok (.iaload, 1) := by decide +kernel
theorem dX12_measureAll_13 : decode cX12_measureAll 13 = .ok (.invokevirtual 522, 3) := by decide +kernel
theorem dX12_measureAll_16 : decode cX12_measureAll 16 = .ok (.iconst 0, 1) := by decide +kernel
theorem dX12_measureAll_17 : decode cX12_measureAll 17 = .ok (.iconst 0, 1) := by decide +kernel
theorem dX12_measureAll_18 : decode cX12_measureAll 18 = .ok (.invokevirtual 271, 3) := by decide +kernel
theorem dX12_measureAll_21 : decode cX12_measureAll 21 = .ok (.istore_n 1, 1) := by decide +kernel
theorem dX12_measureAll_22 : decode cX12_measureAll 22 = .ok (.aload_n 0, 1) := by decide +kernel
theorem dX12_measureAll_23 : decode cX12_measureAll 23 = .ok (.iconst 4, 1) := by decide +kernel
theorem dX12_measureAll_24 : decode cX12_measureAll 24 = .ok (.aload_n 0, 1) := by decide +kernel
theorem dX12_measureAll_25 : decode cX12_measureAll 25 = .ok (.sipush 16640, 3) := by decide +kernel
theorem dX12_measureAll_28 : decode cX12_measureAll 28 = .ok (.aload_n 0, 1) := by decide +kernel
theorem dX12_measureAll_29 : decode cX12_measureAll 29 = .ok (.getfield 104, 3) := by decide +kernel
theorem dX12_measureAll_32 : decode cX12_measureAll 32 = .ok (.bipush 9, 2) := by decide +kernel
theorem dX12_measureAll_34 : decode cX12_measureAll 34 = .ok (.iaload, 1) := by decide +kernel
theorem dX12_measureAll_35 : decode cX12_measureAll 35 = .ok (.invokevirtual 522, 3) := by decide +kernel
theorem dX12_measureAll_38 : decode cX12_measureAll 38 = .ok (.iconst 0, 1) := by decide +kernel
theorem dX12_measureAll_39 : decode cX12_measureAll 39 = .ok (.iconst 0, 1) := by decide +kernel
theorem dX12_measureAll_40 : decode cX12_measureAll 40 = .ok (.invokevirtual 271, 3) := by decide +kernel
theorem dX12_measureAll_43 : decode cX12_measureAll 43 = .ok (.istore_n 2, 1) := by decide +kernel
theorem dX12_measureAll_44 : decode cX12_measureAll 44 = .ok (.aload_n 0, 1) := by decide +kernel
theorem dX12_measureAll_45 : decode cX12_measureAll 45 = .ok (.iconst 4, 1) := by decide +kernel
theorem dX12_measureAll_46 : decode cX12_measureAll 46 = .ok (.aload_n 0, 1) := by decide +kernel
theorem dX12_measureAll_47 : decode cX12_measureAll 47 = .ok (.iconst 3, 1) := by decide +kernel
theorem dX12_measureAll_48 : decode cX12_measureAll 48 = .ok (.iload_n 1, 1) := by decide +kernel
theorem dX12_measureAll_49 : decode cX12_measureAll 49 = .ok (.iload_n 2, 1) := by decide +kernel
theorem dX12_measureAll_50 : decode cX12_measureAll 50 = .ok (.iconst 0, 1) := by decide +kernel
theorem dX12_measureAll_51 : decode cX12_measureAll 51 = .ok (.invokevirtual 271, 3) := by decide +kernel
theorem dX12_measureAll_54 : decode cX12_measureAll 54 = .ok (.iconst 0, 1) := by decide +kernel
theorem dX12_measureAll_55 : decode cX12_measureAll 55 = .ok (.iconst 0, 1) := by decide +kernel
theorem dX12_measureAll_56 : decode cX12_measureAll 56 = .ok (.invokevirtual 271, 3) := by decide +kernel
theorem dX12_measureAll_59 : decode cX12_measureAll 59 = .ok (.istore_n 3, 1) := by decide +kernel
theorem dX12_measureAll_60 : decode cX12_measureAll 60 = .ok (.iconst 0, 1) := by decide +kernel
theorem dX12_measureAll_61 : decode cX12_measureAll 61 = .ok (.istore 4, 2) := by decide +kernel
theorem dX12_measureAll_63 : decode cX12_measureAll 63 = .ok (.iload 4, 2) := by decide +kernel
theorem dX12_measureAll_65 : decode cX12_measureAll 65 = .ok (.aload_n 0, 1) := by decide +kernel
theorem dX12_measureAll_66 : decode cX12_measureAll 66 = .ok (.getfield 513, 3) := by decide +kernel
theorem dX12_measureAll_69 : decode cX12_measureAll 69 = .ok (.if_icmp .ge 91, 3) := by decide +kernel
theorem dX12_measureAll_72 : decode cX12_measureAll 72 = .ok (.aload_n 0, 1) := by decide +kernel
theorem dX12_measureAll_73 : decode cX12_measureAll 73 = .ok (.getfield 137, 3) := by decide +kernel
theorem dX12_measureAll_76 : decode cX12_measureAll 76 = .ok (.iload 4, 2) := by decide +kernel
theorem dX12_measureAll_78 : decode cX12_measureAll 78 = .ok (.aload_n 0, 1) := by decide +kernel
theorem dX12_measureAll_79 : decode cX12_measureAll 79 = .ok (.sipush 2048, 3) := by decide +kernel
theorem dX12_measureAll_82 : decode cX12_measureAll 82 = .ok (.iload 4, 2) := by decide +kernel
theorem dX12_measureAll_84 : decode cX12_measureAll 84 = .ok (.imul, 1) := by decide +kernel
theorem dX12_measureAll_85 : decode cX12_measureAll 85 = .ok (.aload_n 0, 1) := by decide +kernel
theorem dX12_measureAll_86 : decode cX12_measureAll 86 = .ok (.getfield 104, 3) := by decide +kernel
theorem dX12_measureAll_89 : decode cX12_measureAll 89 = .ok (.iload 4, 2) := by decide +kernel
theorem dX12_measureAll_91 : decode cX12_measureAll 91 = .ok (.iaload, 1) := by decide +kernel
theorem dX12_measureAll_92 : decode cX12_measureAll 92 = .ok (.invokevirtual 522, 3) := by decide +kernel
theorem dX12_measureAll_95 : decode cX12_measureAll 95 = .ok (.iastore, 1) := by decide +kernel
theorem dX12_measureAll_96 : decode cX12_measureAll 96 = .ok (.aload_n 0, 1) := by decide +kernel
theorem dX12_measureAll_97 : decode cX12_measureAll 97 = .ok (.iconst 4, 1) := by decide +kernel
theorem dX12_measureAll_98 : decode cX12_measureAll 98 = .ok (.aload_n 0, 1) := by decide +kernel
theorem dX12_measureAll_99 : decode cX12_measureAll 99 = .ok (.getfield 137, 3) := by decide +kernel
theorem dX12_measureAll_102 : decode cX12_measureAll 102 = .ok (.iload 4, 2) := by decide +kernel
theorem dX12_measureAll_104 : decode cX12_measureAll 104 = .ok (.iaload, 1) := by decide +kernel
theorem dX12_measureAll_105 : decode cX12_measureAll 105 = .ok (.iconst 0, 1) := by decide +kernel
theorem dX12_measureAll_106 : decode cX12_measureAll 106 = .ok (.iconst 0, 1) := by decide +kernel
theorem dX12_measureAll_107 : decode cX12_measureAll 107 = .ok (.invokevirtual 271, 3) := by decide +kernel
theorem dX12_measureAll_110 : decode cX12_measureAll 110 = .ok (.istore 5, 2) := by decide +kernel
theorem dX12_measureAll_112 : decode cX12_measureAll 112 = .ok (.aload_n 0, 1) := by decide +kernel
theorem dX12_measureAll_113 : decode cX12_measureAll 113 = .ok (.iconst 3, 1) := by decide +kernel
theorem dX12_measureAll_114 : decode cX12_measureAll 114 = .ok (.aload_n 0, 1) := by decide +kernel
theorem dX12_measureAll_115 : decode cX12_measureAll 115 = .ok (.iconst 0, 1) := by decide +kernel
theorem dX12_measureAll_116 : decode cX12_measureAll 116 = .ok (.iload 4, 2) := by decide +kernel
theorem dX12_measureAll_118 : decode cX12_measureAll 118 = .ok (.iconst 0, 1) := by decide +kernel
theorem dX12_measureAll_119 : decode cX12_measureAll 119 = .ok (.iconst 0, 1) := by decide +kernel
theorem dX12_measureAll_120 : decode cX12_measureAll 120 = .ok (.invokevirtual 271, 3) := by decide +kernel
theorem dX12_measureAll_123 : decode cX12_measureAll 123 = .ok (.iload 5, 2) := by decide +kernel
theorem dX12_measureAll_125 : decode cX12_measureAll 125 = .ok (.iconst 0, 1) := by decide +kernel
theorem dX12_measureAll_126 : decode cX12_measureAll 126 = .ok (.invokevirtual 271, 3) := by decide +kernel
theorem dX12_measureAll_129 : decode cX12_measureAll 129 = .ok (.istore 6, 2) := by decide +kernel
theorem dX12_measureAll_131 : decode cX12_measureAll 131 = .ok (.aload_n 0, 1) := by decide +kernel
theorem dX12_measureAll_132 : decode cX12_measureAll 132 = .ok (.getfield 140, 3) := by decide +kernel
theorem dX12_measureAll_135 : decode cX12_measureAll 135 = .ok (.iload 4, 2) := by decide +kernel
theorem dX12_measureAll_137 : decode cX12_measureAll 137 = .ok (.aload_n 0, 1) := by decide +kernel
theorem dX12_measureAll_138 : decode cX12_measureAll 138 = .ok (.iconst 4, 1) := by decide +kernel
theorem dX12_measureAll_139 : decode cX12_measureAll 139 = .ok (.aload_n 0, 1) := by decide +kernel
theorem dX12_measureAll_140 : decode cX12_measureAll 140 = .ok (.iconst 3, 1) := by decide +kernel
theorem dX12_measureAll_141 : decode cX12_measureAll 141 = .ok (.iload_n 3, 1) := by decide +kernel
theorem dX12_measureAll_142 : decode cX12_measureAll 142 = .ok (.iload 6, 2) := by decide +kernel
theorem dX12_measureAll_144 : decode cX12_measureAll 144 = .ok (.iconst 0, 1) := by decide +kernel
theorem dX12_measureAll_145 : decode cX12_measureAll 145 = .ok (.invokevirtual 271, 3) := by decide +kernel
theorem dX12_measureAll_148 : decode cX12_measureAll 148 = .ok (.iconst 0, 1) := by decide +kernel
theorem dX12_measureAll_149 : decode cX12_measureAll 149 = .ok (.iconst 0, 1) := by decide +kernel
theorem dX12_measureAll_150 : decode cX12_measureAll 150 = .ok (.invokevirtual 271, 3) := by decide +kernel
theorem dX12_measureAll_153 : decode cX12_measureAll 153 = .ok (.iastore, 1) := by decide +kernel
theorem dX12_measureAll_154 : decode cX12_measureAll 154 = .ok (.iinc 4 1, 3) := by decide +kernel
theorem dX12_measureAll_157 : decode cX12_measureAll 157 = .ok (.goto (-94), 3) := by decide +kernel
theorem dX12_measureAll_160 : decode cX12_measureAll 160 = .ok (.return_, 1) := by decide +kernel
theorem cc_measureAll : Cond.code yX12_measureAll cX12_measureAll 7 none ∈ rf_tb := rf_at 2083 (by decide +kernel) (by decide +kernel)
theorem cw_measureAll : rf_wV yX12_measureAll cX12_measureAll 7 none 541 0 := ⟨⟨rf_at 2080 (by decide +kernel) (by decide +kernel), rf_at 2082 (by decide +kernel) (by decide +kernel), rf_sel (q := (yX12_measureAll, 122)) 105 (by decide +kernel) (by decide +kernel), cc_measureAll⟩, rfl, by decide +kernel⟩
noncomputable def lq_measureAll_63 (x3 : Int32) (x4 : Int32) (ρ : rf_S) : Option ((Int32 × rf_S) ⊕ (Int32 × rf_S)) := (if (ρ.1 0 55) ≤ x4 then some (.inr (x4, ρ)) else ix x4 10 (bd2 (fq_rowTerm ((2048:Int32) * x4) (ρ.1 27 x4.toNatClampNeg) ρ) (fun r_14 ρ_13 => ix x4 8 (vl (rf_w ρ_13 38 x4.toNatClampNeg r_14) (fun ρ_15 => ix x4 8 (bd2 (fq_term (4:Int32) (ρ_15.1 38 x4.toNatClampNeg) (0:Int32) (0:Int32) ρ_15) (fun r_17 ρ_16 => bd2 (fq_term (0:Int32) x4 (0:Int32) (0:Int32) ρ_16) (fun r_19 ρ_18 => bd2 (fq_term (3:Int32) r_19 r_17 (0:Int32) ρ_18) (fun r_21 ρ_20 => bd2 (fq_term (3:Int32) x3 r_21 (0:Int32) ρ_20) (fun r_23 ρ_22 => bd2 (fq_term (4:Int32) r_23 (0:Int32) (0:Int32) ρ_22) (fun r_25 ρ_24 => ix x4 8 (vl (rf_w ρ_24 39 x4.toNatClampNeg r_25) (fun ρ_26 => vl (x4 + (1:Int32)) (fun x4_27 => some (.inl (x4_27, ρ_26))))))))))))))))
noncomputable def eq_measureAll_63 (x3 : Int32) (x4 : Int32) (ρ : rf_S) : Option (rf_S) := some ρ
noncomputable def bq_measureAll_63 (x3 : Int32) (x4 : Int32) (ρ : rf_S) : Option (rf_S) := (lp (fun z : (Int32 × rf_S) => lq_measureAll_63 x3 z.1 z.2) (x4, ρ)).bind (fun z => eq_measureAll_63 x3 z.1 z.2)
set_option maxHeartbeats 4000000 in
theorem wq_measureAll_63 (C : rf_C D p s m args meth c cX12_measureAll 7 none) {x3 : Int32} {x4 : Int32} {ρ ρ' : rf_S} {H : Heap} {locs : List Loc} {ls : Array Slot} (h : bq_measureAll_63 x3 x4 ρ = some ρ') (G : rf_G D h0 s ρ H locs) (hl : lv_has ls 7 [(0, .ref h0), (3, .int x3), (4, .int x4)]) : W p l e ({ frames := 3, cells := 0, slots := 0, locals := 74 }) s m args below meth c H locs 0 0 (MQ below (rf_Q D h0 none ρ') args s 0 0 (rf_A h0)) (F0 m 63 ls []) := by
  unfold bq_measureAll_63 at h
  obtain ⟨y, hy, h⟩ := bd_some h
  have hE : (fun z : (Int32 × rf_S) => ∀ (H : Heap) (locs : List Loc) (ls : Array Slot), rf_G D h0 s z.2 H locs → lv_has ls 7 [(0, .ref h0), (3, .int x3), (4, .int z.1)] → W p l e ({ frames := 3, cells := 0, slots := 0, locals := 74 }) s m args below meth c H locs 0 0 (MQ below (rf_Q D h0 none ρ') args s 0 0 (rf_A h0)) (F0 m 160 ls [])) y := by
    intro H locs ls G hl
    obtain ⟨x4, ρ⟩ := y
    dsimp only at h G hl
    unfold eq_measureAll_63 at h
    exact rf_vret C G h dX12_measureAll_160
  refine lp_recE (fun z : (Int32 × rf_S) => ∀ (H : Heap) (locs : List Loc) (ls : Array Slot), rf_G D h0 s z.2 H locs → lv_has ls 7 [(0, .ref h0), (3, .int x3), (4, .int z.1)] → W p l e ({ frames := 3, cells := 0, slots := 0, locals := 74 }) s m args below meth c H locs 0 0 (MQ below (rf_Q D h0 none ρ') args s 0 0 (rf_A h0)) (F0 m 63 ls [])) (fun z : (Int32 × rf_S) => ∀ (H : Heap) (locs : List Loc) (ls : Array Slot), rf_G D h0 s z.2 H locs → lv_has ls 7 [(0, .ref h0), (3, .int x3), (4, .int z.1)] → W p l e ({ frames := 3, cells := 0, slots := 0, locals := 74 }) s m args below meth c H locs 0 0 (MQ below (rf_Q D h0 none ρ') args s 0 0 (rf_A h0)) (F0 m 160 ls [])) ?_ _ _ hy hE _ _ _ G hl
  clear hE hy G hl h
  intro z o h hP H locs ls G hl
  obtain ⟨x4, ρ⟩ := z
  dsimp only at h G hl
  unfold lq_measureAll_63 at h
  refine lv_iload C.1 C.2.1 dX12_measureAll_63 (lv_at hl 2 rfl) ?_
  refine lv_aload_n C.1 C.2.1 dX12_measureAll_65 rfl (lv_at hl 0 rfl) ?_
  refine gf_55 C G dX12_measureAll_66 ?_
  refine lv_icmp_ge (tgt := 160) C.1 C.2.1 dX12_measureAll_69 (by decide) (fun hc => ?_) (fun hc => ?_)
  · rw [if_pos hc] at h
    cases h
    exact hP _ _ _ G (lv_sub hl [0, 1, 2] rfl)
  · rw [if_neg hc] at h
    refine lv_aload_n C.1 C.2.1 dX12_measureAll_72 rfl (lv_at hl 0 rfl) ?_
    refine gf_68 C G dX12_measureAll_73 ?_
    refine lv_iload C.1 C.2.1 dX12_measureAll_76 (lv_at hl 2 rfl) ?_
    refine lv_aload_n C.1 C.2.1 dX12_measureAll_78 rfl (lv_at hl 0 rfl) ?_
    refine lv_sipush (v := (2048:Int32)) C.1 C.2.1 dX12_measureAll_79 (by decide) ?_
    refine lv_iload C.1 C.2.1 dX12_measureAll_82 (lv_at hl 2 rfl) ?_
    refine lv_imul C.1 C.2.1 dX12_measureAll_84 ?_
    refine lv_aload_n C.1 C.2.1 dX12_measureAll_85 rfl (lv_at hl 0 rfl) ?_
    refine gf_50 C G dX12_measureAll_86 ?_
    refine lv_iload C.1 C.2.1 dX12_measureAll_89 (lv_at hl 2 rfl) ?_
    obtain ⟨hi, h⟩ := ix_some h
    refine rf_iald C G 27 rfl (by decide) rfl rfl hi dX12_measureAll_91 ?_
    obtain ⟨r_14, ρ_13, hq, h⟩ := bd2_some h
    refine rf_callV (rest := [.int x4, .ref (h0 + 38)]) C G cw_rowTerm [.int ((2048:Int32) * x4), .int (ρ.1 27 x4.toNatClampNeg)] _ (kq_rowTerm l D h0 hq) (Nat.le_of_ble_eq_true rfl) (Nat.le_of_ble_eq_true rfl) rfl rfl hl.1 (Nat.le_of_ble_eq_true rfl) (Nat.zero_le _) (Nat.zero_le _) dX12_measureAll_92 (fun H locs G => ?_)
    refine W.eq (g2 := F0 m 95 ls [.int r_14, .int x4, .ref (h0 + 38)]) rfl ?_
    obtain ⟨hi, h⟩ := ix_some h
    refine rf_iast C G 38 rfl (by decide) rfl rfl hi dX12_measureAll_95 (fun H locs G => ?_)
    refine rf_nm G h (fun ρ_15 G h => ?_)
    refine lv_aload_n C.1 C.2.1 dX12_measureAll_96 rfl (lv_at hl 0 rfl) ?_
    refine lv_iconst (v := (4:Int32)) C.1 C.2.1 dX12_measureAll_97 (by decide) ?_
    refine lv_aload_n C.1 C.2.1 dX12_measureAll_98 rfl (lv_at hl 0 rfl) ?_
    refine gf_68 C G dX12_measureAll_99 ?_
    refine lv_iload C.1 C.2.1 dX12_measureAll_102 (lv_at hl 2 rfl) ?_
    obtain ⟨hi, h⟩ := ix_some h
    refine rf_iald C G 38 rfl (by decide) rfl rfl hi dX12_measureAll_104 ?_
    refine lv_iconst (v := (0:Int32)) C.1 C.2.1 dX12_measureAll_105 (by decide) ?_
    refine lv_iconst (v := (0:Int32)) C.1 C.2.1 dX12_measureAll_106 (by decide) ?_
    obtain ⟨r_17, ρ_16, hq, h⟩ := bd2_some h
    refine rf_callV (rest := []) C G cw_term [.int (4:Int32), .int (ρ_15.1 38 x4.toNatClampNeg), .int (0:Int32), .int (0:Int32)] _ (kq_term l D h0 hq) (Nat.le_of_ble_eq_true rfl) (Nat.le_of_ble_eq_true rfl) rfl rfl hl.1 (Nat.le_of_ble_eq_true rfl) (Nat.zero_le _) (Nat.zero_le _) dX12_measureAll_107 (fun H locs G => ?_)
    refine W.eq (g2 := F0 m 110 ls [.int r_17]) rfl ?_
    refine lv_istore (lv' := [(5, .int r_17), (0, .ref h0), (3, .int x3), (4, .int x4)]) C.1 C.2.1 dX12_measureAll_110 hl (by decide) rfl (fun ls hl => ?_)
    refine lv_aload_n C.1 C.2.1 dX12_measureAll_112 rfl (lv_at hl 1 rfl) ?_
    refine lv_iconst (v := (3:Int32)) C.1 C.2.1 dX12_measureAll_113 (by decide) ?_
    refine lv_aload_n C.1 C.2.1 dX12_measureAll_114 rfl (lv_at hl 1 rfl) ?_
    refine lv_iconst (v := (0:Int32)) C.1 C.2.1 dX12_measureAll_115 (by decide) ?_
    refine lv_iload C.1 C.2.1 dX12_measureAll_116 (lv_at hl 3 rfl) ?_
    refine lv_iconst (v := (0:Int32)) C.1 C.2.1 dX12_measureAll_118 (by decide) ?_
    refine lv_iconst (v := (0:Int32)) C.1 C.2.1 dX12_measureAll_119 (by decide) ?_
    obtain ⟨r_19, ρ_18, hq, h⟩ := bd2_some h
    refine rf_callV (rest := [.int (3:Int32), .ref h0]) C G cw_term [.int (0:Int32), .int x4, .int (0:Int32), .int (0:Int32)] _ (kq_term l D h0 hq) (Nat.le_of_ble_eq_true rfl) (Nat.le_of_ble_eq_true rfl) rfl rfl hl.1 (Nat.le_of_ble_eq_true rfl) (Nat.zero_le _) (Nat.zero_le _) dX12_measureAll_120 (fun H locs G => ?_)
    refine W.eq (g2 := F0 m 123 ls [.int r_19, .int (3:Int32), .ref h0]) rfl ?_
    refine lv_iload C.1 C.2.1 dX12_measureAll_123 (lv_at hl 0 rfl) ?_
    refine lv_iconst (v := (0:Int32)) C.1 C.2.1 dX12_measureAll_125 (by decide) ?_
    obtain ⟨r_21, ρ_20, hq, h⟩ := bd2_some h
    refine rf_callV (rest := []) C G cw_term [.int (3:Int32), .int r_19, .int r_17, .int (0:Int32)] _ (kq_term l D h0 hq) (Nat.le_of_ble_eq_true rfl) (Nat.le_of_ble_eq_true rfl) rfl rfl hl.1 (Nat.le_of_ble_eq_true rfl) (Nat.zero_le _) (Nat.zero_le _) dX12_measureAll_126 (fun H locs G => ?_)
    refine W.eq (g2 := F0 m 129 ls [.int r_21]) rfl ?_
    refine lv_istore (lv' := [(6, .int r_21), (5, .int r_17), (0, .ref h0), (3, .int x3), (4, .int x4)]) C.1 C.2.1 dX12_measureAll_129 hl (by decide) rfl (fun ls hl => ?_)
    refine lv_aload_n C.1 C.2.1 dX12_measureAll_131 rfl (lv_at hl 2 rfl) ?_
    refine gf_69 C G dX12_measureAll_132 ?_
    refine lv_iload C.1 C.2.1 dX12_measureAll_135 (lv_at hl 4 rfl) ?_
    refine lv_aload_n C.1 C.2.1 dX12_measureAll_137 rfl (lv_at hl 2 rfl) ?_
    refine lv_iconst (v := (4:Int32)) C.1 C.2.1 dX12_measureAll_138 (by decide) ?_
    refine lv_aload_n C.1 C.2.1 dX12_measureAll_139 rfl (lv_at hl 2 rfl) ?_
    refine lv_iconst (v := (3:Int32)) C.1 C.2.1 dX12_measureAll_140 (by decide) ?_
    refine lv_iload_n C.1 C.2.1 dX12_measureAll_141 rfl (lv_at hl 3 rfl) ?_
    refine lv_iload C.1 C.2.1 dX12_measureAll_142 (lv_at hl 0 rfl) ?_
    refine lv_iconst (v := (0:Int32)) C.1 C.2.1 dX12_measureAll_144 (by decide) ?_
    obtain ⟨r_23, ρ_22, hq, h⟩ := bd2_some h
    refine rf_callV (rest := [.int (4:Int32), .ref h0, .int x4, .ref (h0 + 39)]) C G cw_term [.int (3:Int32), .int x3, .int r_21, .int (0:Int32)] _ (kq_term l D h0 hq) (Nat.le_of_ble_eq_true rfl) (Nat.le_of_ble_eq_true rfl) rfl rfl hl.1 (Nat.le_of_ble_eq_true rfl) (Nat.zero_le _) (Nat.zero_le _) dX12_measureAll_145 (fun H locs G => ?_)
    refine W.eq (g2 := F0 m 148 ls [.int r_23, .int (4:Int32), .ref h0, .int x4, .ref (h0 + 39)]) rfl ?_
    refine lv_iconst (v := (0:Int32)) C.1 C.2.1 dX12_measureAll_148 (by decide) ?_
    refine lv_iconst (v := (0:Int32)) C.1 C.2.1 dX12_measureAll_149 (by decide) ?_
    obtain ⟨r_25, ρ_24, hq, h⟩ := bd2_some h
    refine rf_callV (rest := [.int x4, .ref (h0 + 39)]) C G cw_term [.int (4:Int32), .int r_23, .int (0:Int32), .int (0:Int32)] _ (kq_term l D h0 hq) (Nat.le_of_ble_eq_true rfl) (Nat.le_of_ble_eq_true rfl) rfl rfl hl.1 (Nat.le_of_ble_eq_true rfl) (Nat.zero_le _) (Nat.zero_le _) dX12_measureAll_150 (fun H locs G => ?_)
    refine W.eq (g2 := F0 m 153 ls [.int r_25, .int x4, .ref (h0 + 39)]) rfl ?_
    obtain ⟨hi, h⟩ := ix_some h
    refine rf_iast C G 39 rfl (by decide) rfl rfl hi dX12_measureAll_153 (fun H locs G => ?_)
    refine rf_nm G h (fun ρ_26 G h => ?_)
    refine vl_ex h (fun x4_27 ey h => ?_)
    refine lv_iinc (v := x4_27) (lv' := [(4, .int x4_27), (6, .int r_21), (5, .int r_17), (0, .ref h0), (3, .int x3)]) C.1 C.2.1 dX12_measureAll_154 hl (k := 4) rfl (by rw [ey]; rfl) (by decide) rfl (fun ls hl => ?_)
    refine lv_goto (tgt := 63) C.1 C.2.1 dX12_measureAll_157 (by decide) ?_
    cases h
    exact hP _ _ _ G (lv_sub hl [3, 4, 0] rfl)
noncomputable def bq_measureAll_0  (ρ : rf_S) : Option (rf_S) := ix (8:Int32) 10 (bd2 (fq_rowTerm (16384:Int32) (ρ.1 27 (8:Int32).toNatClampNeg) ρ) (fun r_2 ρ_1 => bd2 (fq_term (4:Int32) r_2 (0:Int32) (0:Int32) ρ_1) (fun r_4 ρ_3 => ix (9:Int32) 10 (bd2 (fq_rowTerm (16640:Int32) (ρ_3.1 27 (9:Int32).toNatClampNeg) ρ_3) (fun r_6 ρ_5 => bd2 (fq_term (4:Int32) r_6 (0:Int32) (0:Int32) ρ_5) (fun r_8 ρ_7 => bd2 (fq_term (3:Int32) r_4 r_8 (0:Int32) ρ_7) (fun r_10 ρ_9 => bd2 (fq_term (4:Int32) r_10 (0:Int32) (0:Int32) ρ_9) (fun r_12 ρ_11 => bq_measureAll_63 r_12 (0:Int32) ρ_11))))))))
set_option maxHeartbeats 4000000 in
theorem wq_measureAll_0 (C : rf_C D p s m args meth c cX12_measureAll 7 none) {ρ ρ' : rf_S} {H : Heap} {locs : List Loc} {ls : Array Slot} (h : bq_measureAll_0 ρ = some ρ') (G : rf_G D h0 s ρ H locs) (hl : lv_has ls 7 [(0, .ref h0)]) : W p l e ({ frames := 3, cells := 0, slots := 0, locals := 74 }) s m args below meth c H locs 0 0 (MQ below (rf_Q D h0 none ρ') args s 0 0 (rf_A h0)) (F0 m 0 ls []) := by
  unfold bq_measureAll_0 at h
  refine lv_aload_n C.1 C.2.1 dX12_measureAll_0 rfl (lv_at hl 0 rfl) ?_
  refine lv_iconst (v := (4:Int32)) C.1 C.2.1 dX12_measureAll_1 (by decide) ?_
  refine lv_aload_n C.1 C.2.1 dX12_measureAll_2 rfl (lv_at hl 0 rfl) ?_
  refine lv_sipush (v := (16384:Int32)) C.1 C.2.1 dX12_measureAll_3 (by decide) ?_
  refine lv_aload_n C.1 C.2.1 dX12_measureAll_6 rfl (lv_at hl 0 rfl) ?_
  refine gf_50 C G dX12_measureAll_7 ?_
  refine lv_bipush (v := (8:Int32)) C.1 C.2.1 dX12_measureAll_10 (by decide) ?_
  obtain ⟨hi, h⟩ := ix_some h
  refine rf_iald C G 27 rfl (by decide) rfl rfl hi dX12_measureAll_12 ?_
  obtain ⟨r_2, ρ_1, hq, h⟩ := bd2_some h
  refine rf_callV (rest := [.int (4:Int32), .ref h0]) C G cw_rowTerm [.int (16384:Int32), .int (ρ.1 27 (8:Int32).toNatClampNeg)] _ (kq_rowTerm l D h0 hq) (Nat.le_of_ble_eq_true rfl) (Nat.le_of_ble_eq_true rfl) rfl rfl hl.1 (Nat.le_of_ble_eq_true rfl) (Nat.zero_le _) (Nat.zero_le _) dX12_measureAll_13 (fun H locs G => ?_)
  refine W.eq (g2 := F0 m 16 ls [.int r_2, .int (4:Int32), .ref h0]) rfl ?_
  refine lv_iconst (v := (0:Int32)) C.1 C.2.1 dX12_measureAll_16 (by decide) ?_
  refine lv_iconst (v := (0:Int32)) C.1 C.2.1 dX12_measureAll_17 (by decide) ?_
  obtain ⟨r_4, ρ_3, hq, h⟩ := bd2_some h
  refine rf_callV (rest := []) C G cw_term [.int (4:Int32), .int r_2, .int (0:Int32), .int (0:Int32)] _ (kq_term l D h0 hq) (Nat.le_of_ble_eq_true rfl) (Nat.le_of_ble_eq_true rfl) rfl rfl hl.1 (Nat.le_of_ble_eq_true rfl) (Nat.zero_le _) (Nat.zero_le _) dX12_measureAll_18 (fun H locs G => ?_)
  refine W.eq (g2 := F0 m 21 ls [.int r_4]) rfl ?_
  refine lv_istore_n (lv' := [(1, .int r_4), (0, .ref h0)]) C.1 C.2.1 dX12_measureAll_21 rfl hl (by decide) rfl (fun ls hl => ?_)
  refine lv_aload_n C.1 C.2.1 dX12_measureAll_22 rfl (lv_at hl 1 rfl) ?_
  refine lv_iconst (v := (4:Int32)) C.1 C.2.1 dX12_measureAll_23 (by decide) ?_
  refine lv_aload_n C.1 C.2.1 dX12_measureAll_24 rfl (lv_at hl 1 rfl) ?_
  refine lv_sipush (v := (16640:Int32)) C.1 C.2.1 dX12_measureAll_25 (by decide) ?_
  refine lv_aload_n C.1 C.2.1 dX12_measureAll_28 rfl (lv_at hl 1 rfl) ?_
  refine gf_50 C G dX12_measureAll_29 ?_
  refine lv_bipush (v := (9:Int32)) C.1 C.2.1 dX12_measureAll_32 (by decide) ?_
  obtain ⟨hi, h⟩ := ix_some h
  refine rf_iald C G 27 rfl (by decide) rfl rfl hi dX12_measureAll_34 ?_
  obtain ⟨r_6, ρ_5, hq, h⟩ := bd2_some h
  refine rf_callV (rest := [.int (4:Int32), .ref h0]) C G cw_rowTerm [.int (16640:Int32), .int (ρ_3.1 27 (9:Int32).toNatClampNeg)] _ (kq_rowTerm l D h0 hq) (Nat.le_of_ble_eq_true rfl) (Nat.le_of_ble_eq_true rfl) rfl rfl hl.1 (Nat.le_of_ble_eq_true rfl) (Nat.zero_le _) (Nat.zero_le _) dX12_measureAll_35 (fun H locs G => ?_)
  refine W.eq (g2 := F0 m 38 ls [.int r_6, .int (4:Int32), .ref h0]) rfl ?_
  refine lv_iconst (v := (0:Int32)) C.1 C.2.1 dX12_measureAll_38 (by decide) ?_
  refine lv_iconst (v := (0:Int32)) C.1 C.2.1 dX12_measureAll_39 (by decide) ?_
  obtain ⟨r_8, ρ_7, hq, h⟩ := bd2_some h
  refine rf_callV (rest := []) C G cw_term [.int (4:Int32), .int r_6, .int (0:Int32), .int (0:Int32)] _ (kq_term l D h0 hq) (Nat.le_of_ble_eq_true rfl) (Nat.le_of_ble_eq_true rfl) rfl rfl hl.1 (Nat.le_of_ble_eq_true rfl) (Nat.zero_le _) (Nat.zero_le _) dX12_measureAll_40 (fun H locs G => ?_)
  refine W.eq (g2 := F0 m 43 ls [.int r_8]) rfl ?_
  refine lv_istore_n (lv' := [(2, .int r_8), (1, .int r_4), (0, .ref h0)]) C.1 C.2.1 dX12_measureAll_43 rfl hl (by decide) rfl (fun ls hl => ?_)
  refine lv_aload_n C.1 C.2.1 dX12_measureAll_44 rfl (lv_at hl 2 rfl) ?_
  refine lv_iconst (v := (4:Int32)) C.1 C.2.1 dX12_measureAll_45 (by decide) ?_
  refine lv_aload_n C.1 C.2.1 dX12_measureAll_46 rfl (lv_at hl 2 rfl) ?_
  refine lv_iconst (v := (3:Int32)) C.1 C.2.1 dX12_measureAll_47 (by decide) ?_
  refine lv_iload_n C.1 C.2.1 dX12_measureAll_48 rfl (lv_at hl 1 rfl) ?_
  refine lv_iload_n C.1 C.2.1 dX12_measureAll_49 rfl (lv_at hl 0 rfl) ?_
  refine lv_iconst (v := (0:Int32)) C.1 C.2.1 dX12_measureAll_50 (by decide) ?_
  obtain ⟨r_10, ρ_9, hq, h⟩ := bd2_some h
  refine rf_callV (rest := [.int (4:Int32), .ref h0]) C G cw_term [.int (3:Int32), .int r_4, .int r_8, .int (0:Int32)] _ (kq_term l D h0 hq) (Nat.le_of_ble_eq_true rfl) (Nat.le_of_ble_eq_true rfl) rfl rfl hl.1 (Nat.le_of_ble_eq_true rfl) (Nat.zero_le _) (Nat.zero_le _) dX12_measureAll_51 (fun H locs G => ?_)
  refine W.eq (g2 := F0 m 54 ls [.int r_10, .int (4:Int32), .ref h0]) rfl ?_
  refine lv_iconst (v := (0:Int32)) C.1 C.2.1 dX12_measureAll_54 (by decide) ?_
  refine lv_iconst (v := (0:Int32)) C.1 C.2.1 dX12_measureAll_55 (by decide) ?_
  obtain ⟨r_12, ρ_11, hq, h⟩ := bd2_some h
  refine rf_callV (rest := []) C G cw_term [.int (4:Int32), .int r_10, .int (0:Int32), .int (0:Int32)] _ (kq_term l D h0 hq) (Nat.le_of_ble_eq_true rfl) (Nat.le_of_ble_eq_true rfl) rfl rfl hl.1 (Nat.le_of_ble_eq_true rfl) (Nat.zero_le _) (Nat.zero_le _) dX12_measureAll_56 (fun H locs G => ?_)
  refine W.eq (g2 := F0 m 59 ls [.int r_12]) rfl ?_
  refine lv_istore_n (lv' := [(3, .int r_12), (2, .int r_8), (1, .int r_4), (0, .ref h0)]) C.1 C.2.1 dX12_measureAll_59 rfl hl (by decide) rfl (fun ls hl => ?_)
  refine lv_iconst (v := (0:Int32)) C.1 C.2.1 dX12_measureAll_60 (by decide) ?_
  refine lv_istore (lv' := [(4, .int (0:Int32)), (3, .int r_12), (2, .int r_8), (1, .int r_4), (0, .ref h0)]) C.1 C.2.1 dX12_measureAll_61 hl (by decide) rfl (fun ls hl => ?_)
  exact wq_measureAll_63 C h G (lv_sub hl [4, 1, 0] rfl)
noncomputable def fq_measureAll  (ρ : rf_S) : Option (rf_S) := bq_measureAll_0 ρ
theorem kq_measureAll (l : Launch) (D : rf_D) (h0 : Nat) {ρ ρ' : rf_S} (h : fq_measureAll ρ = some ρ') : rf_Met l D h0 yX12_measureAll cX12_measureAll 7 none 3 74 [.ref h0] ρ none ρ' :=
  rf_of rfl cc_measureAll (Nat.le_of_ble_eq_true rfl) (fun p e s m args below meth c ls C G hl => wq_measureAll_0 C h G hl)
end RQ7
