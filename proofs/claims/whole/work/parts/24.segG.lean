theorem dX11_summedUp_0 : decode cX11_summedUp 0 = .ok (.sipush 945, 3) := by decide +kernel
theorem dX11_summedUp_3 : decode cX11_summedUp 3 = .ok (.iload_n 1, 1) := by decide +kernel
theorem dX11_summedUp_4 : decode cX11_summedUp 4 = .ok (.imul, 1) := by decide +kernel
theorem dX11_summedUp_5 : decode cX11_summedUp 5 = .ok (.iconst 1, 1) := by decide +kernel
theorem dX11_summedUp_6 : decode cX11_summedUp 6 = .ok (.iadd, 1) := by decide +kernel
theorem dX11_summedUp_7 : decode cX11_summedUp 7 = .ok (.bipush 14, 2) := by decide +kernel
theorem dX11_summedUp_9 : decode cX11_summedUp 9 = .ok (.iload_n 2, 1) := by decide +kernel
theorem dX11_summedUp_10 : decode cX11_summedUp 10 = .ok (.imul, 1) := by decide +kernel
theorem dX11_summedUp_11 : decode cX11_summedUp 11 = .ok (.iadd, 1) := by decide +kernel
theorem dX11_summedUp_12 : decode cX11_summedUp 12 = .ok (.istore_n 3, 1) := by decide +kernel
theorem dX11_summedUp_13 : decode cX11_summedUp 13 = .ok (.sipush 945, 3) := by decide +kernel
theorem dX11_summedUp_16 : decode cX11_summedUp 16 = .ok (.iload_n 1, 1) := by decide +kernel
theorem dX11_summedUp_17 : decode cX11_summedUp 17 = .ok (.imul, 1) := by decide +kernel
theorem dX11_summedUp_18 : decode cX11_summedUp 18 = .ok (.sipush 337, 3) := by decide +kernel
theorem dX11_summedUp_21 : decode cX11_summedUp 21 = .ok (.iadd, 1) := by decide +kernel
theorem dX11_summedUp_22 : decode cX11_summedUp 22 = .ok (.istore 4, 2) := by decide +kernel
theorem dX11_summedUp_24 : decode cX11_summedUp 24 = .ok (.iconst 0, 1) := by decide +kernel
theorem dX11_summedUp_25 : decode cX11_summedUp 25 = .ok (.istore 5, 2) := by decide +kernel
theorem dX11_summedUp_27 : decode cX11_summedUp 27 = .ok (.iconst 0, 1) := by decide +kernel
theorem dX11_summedUp_28 : decode cX11_summedUp 28 = .ok (.istore 6, 2) := by decide +kernel
theorem dX11_summedUp_30 : decode cX11_summedUp 30 = .ok (.aload_n 0, 1) := by decide +kernel
theorem dX11_summedUp_31 : decode cX11_summedUp 31 = .ok (.getfield 19, 3) := by decide +kernel
theorem dX11_summedUp_34 : decode cX11_summedUp 34 = .ok (.iload_n 3, 1) := by decide +kernel
theorem dX11_summedUp_35 : decode cX11_summedUp 35 = .ok (.iconst 1, 1) := by decide +kernel
theorem dX11_summedUp_36 : decode cX11_summedUp 36 = .ok (.iadd, 1) := by decide +kernel
theorem dX11_summedUp_37 : decode cX11_summedUp 37 = .ok (.iaload, 1) := by decide +kernel
theorem dX11_summedUp_38 : decode cX11_summedUp 38 = .ok (.istore 7, 2) := by decide +kernel
theorem dX11_summedUp_40 : decode cX11_summedUp 40 = .ok (.iload 7, 2) := by decide +kernel
theorem dX11_summedUp_42 : decode cX11_summedUp 42 = .ok (.aload_n 0, 1) := by decide +kernel
theorem dX11_summedUp_43 : decode cX11_summedUp 43 = .ok (.getfield 19, 3) := by decide +kernel
theorem dX11_summedUp_46 : decode cX11_summedUp 46 = .ok (.iload_n 3, 1) := by decide +kernel
theorem dX11_summedUp_47 : decode cX11_summedUp 47 = .ok (.iconst 2, 1) := by decide +kernel
theorem dX11_summedUp_48 : decode cX11_summedUp 48 = .ok (.iadd, 1) := by decide +kernel
theorem dX11_summedUp_49 : decode cX11_summedUp 49 = .ok (.iaload, 1) := by decide +kernel
theorem dX11_summedUp_50 : decode cX11_summedUp 50 = .ok (.if_icmp .ge 324, 3) := by decide +kernel
theorem dX11_summedUp_53 : decode cX11_summedUp 53 = .ok (.aload_n 0, 1) := by decide +kernel
theorem dX11_summedUp_54 : decode cX11_summedUp 54 = .ok (.getfield 19, 3) := by decide +kernel
theorem dX11_summedUp_57 : decode cX11_summedUp 57 = .ok (.iload 4, 2) := by decide +kernel
theorem dX11_summedUp_59 : decode cX11_summedUp 59 = .ok (.iconst 2, 1) := by decide +kernel
theorem dX11_summedUp_60 : decode cX11_summedUp 60 = .ok (.iload 7, 2) := by decide +kernel
theorem dX11_summedUp_62 : decode cX11_summedUp 62 = .ok (.imul, 1) := by decide +kernel
theorem dX11_summedUp_63 : decode cX11_summedUp 63 = .ok (.iadd, 1) := by decide +kernel
theorem dX11_summedUp_64 : decode cX11_summedUp 64 = .ok (.iaload, 1) := by decide +kernel
theorem dX11_summedUp_65 : decode cX11_summedUp 65 = .ok (.istore 8, 2) := by decide +kernel
theorem dX11_summedUp_67 : decode cX11_summedUp 67 = .ok (.aload_n 0, 1) := by decide +kernel
theorem dX11_summedUp_68 : decode cX11_summedUp 68 = .ok (.getfield 19, 3) := by decide +kernel
theorem dX11_summedUp_71 : decode cX11_summedUp 71 = .ok (.iload 4, 2) := by decide +kernel
theorem dX11_summedUp_73 : decode cX11_summedUp 73 = .ok (.iconst 2, 1) := by decide +kernel
theorem dX11_summedUp_74 : decode cX11_summedUp 74 = .ok (.iload 7, 2) := by decide +kernel
theorem dX11_summedUp_76 : decode cX11_summedUp 76 = .ok (.imul, 1) := by decide +kernel
theorem dX11_summedUp_77 : decode cX11_summedUp 77 = .ok (.iadd, 1) := by decide +kernel
theorem dX11_summedUp_78 : decode cX11_summedUp 78 = .ok (.iconst 1, 1) := by decide +kernel
theorem dX11_summedUp_79 : decode cX11_summedUp 79 = .ok (.iadd, 1) := by decide +kernel
theorem dX11_summedUp_80 : decode cX11_summedUp 80 = .ok (.iaload, 1) := by decide +kernel
theorem dX11_summedUp_81 : decode cX11_summedUp 81 = .ok (.istore 9, 2) := by decide +kernel
theorem dX11_summedUp_83 : decode cX11_summedUp 83 = .ok (.iload 8, 2) := by decide +kernel
theorem dX11_summedUp_85 : decode cX11_summedUp 85 = .ok (.iconst 1, 1) := by decide +kernel
theorem dX11_summedUp_86 : decode cX11_summedUp 86 = .ok (.if_icmp .gt 35, 3) := by decide +kernel
theorem dX11_summedUp_89 : decode cX11_summedUp 89 = .ok (.aload_n 0, 1) := by decide +kernel
theorem dX11_summedUp_90 : decode cX11_summedUp 90 = .ok (.getfield 38, 3) := by decide +kernel
theorem dX11_summedUp_93 : decode cX11_summedUp 93 = .ok (.iload 5, 2) := by decide +kernel
theorem dX11_summedUp_95 : decode cX11_summedUp 95 = .ok (.iload 8, 2) := by decide +kernel
theorem dX11_summedUp_97 : decode cX11_summedUp 97 = .ok (.ifCond .ne 9, 3) := by decide +kernel
theorem dX11_summedUp_100 : decode cX11_summedUp 100 = .ok (.iload 9, 2) := by decide +kernel
theorem dX11_summedUp_102 : decode cX11_summedUp 102 = .ok (.i2l, 1) := by decide +kernel
theorem dX11_summedUp_103 : decode cX11_summedUp 103 = .ok (.goto 11, 3) := by decide +kernel
theorem dX11_summedUp_106 : decode cX11_summedUp 106 = .ok (.aload_n 0, 1) := by decide +kernel
theorem dX11_summedUp_107 : decode cX11_summedUp 107 = .ok (.getfield 35, 3) := by decide +kernel
theorem dX11_summedUp_110 : decode cX11_summedUp 110 = .ok (.iload 9, 2) := by decide +kernel
theorem dX11_summedUp_112 : decode cX11_summedUp 112 = .ok (.iaload, 1) := by decide +kernel
theorem dX11_summedUp_113 : decode cX11_summedUp 113 = .ok (.i2l, 1) := by decide +kernel
theorem dX11_summedUp_114 : decode cX11_summedUp 114 = .ok (.lastore, 1) := by decide +kernel
theorem dX11_summedUp_115 : decode cX11_summedUp 115 = .ok (.iinc 5 1, 3) := by decide +kernel
theorem dX11_summedUp_118 : decode cX11_summedUp 118 = .ok (.goto 250, 3) := by decide +kernel
theorem dX11_summedUp_121 : decode cX11_summedUp 121 = .ok (.iload 8, 2) := by decide +kernel
theorem dX11_summedUp_123 : decode cX11_summedUp 123 = .ok (.iconst 3, 1) := by decide +kernel
theorem dX11_summedUp_124 : decode cX11_summedUp 124 = .ok (.if_icmp .ne 38, 3) := by decide +kernel
theorem dX11_summedUp_127 : decode cX11_summedUp 127 = .ok (.iinc 5 (-1), 3) := by decide +kernel
theorem dX11_summedUp_130 : decode cX11_summedUp 130 = .ok (.iinc 6 (-1), 3) := by decide +kernel
theorem dX11_summedUp_133 : decode cX11_summedUp 133 = .ok (.aload_n 0, 1) := by decide +kernel
theorem dX11_summedUp_134 : decode cX11_summedUp 134 = .ok (.getfield 42, 3) := by decide +kernel
theorem dX11_summedUp_137 : decode cX11_summedUp 137 = .ok (.iload 6, 2) := by decide +kernel
theorem dX11_summedUp_139 : decode cX11_summedUp 139 = .ok (.baload, 1) := by decide +kernel
theorem dX11_summedUp_140 : decode cX11_summedUp 140 = .ok (.ifCond .ne 228, 3) := by decide +kernel
theorem dX11_summedUp_143 : decode cX11_summedUp 143 = .ok (.aload_n 0, 1) := by decide +kernel
theorem dX11_summedUp_144 : decode cX11_summedUp 144 = .ok (.getfield 38, 3) := by decide +kernel
theorem dX11_summedUp_147 : decode cX11_summedUp 147 = .ok (.iload 5, 2) := by decide +kernel
theorem dX11_summedUp_149 : decode cX11_summedUp 149 = .ok (.iconst 1, 1) := by decide +kernel
theorem dX11_summedUp_150 : decode cX11_summedUp 150 = .ok (.isub, 1) := by decide +kernel
theorem dX11_summedUp_151 : decode cX11_summedUp 151 = .ok (.aload_n 0, 1) := by decide +kernel
theorem dX11_summedUp_152 : decode cX11_summedUp 152 = .ok (.getfield 38, 3) := by decide +kernel
theorem dX11_summedUp_155 : decode cX11_summedUp 155 = .ok (.iload 5, 2) := by decide +kernel
theorem dX11_summedUp_157 : decode cX11_summedUp 157 = .ok (.laload, 1) := by decide +kernel
theorem dX11_summedUp_158 : decode cX11_summedUp 158 = .ok (.lastore, 1) := by decide +kernel
theorem dX11_summedUp_159 : decode cX11_summedUp 159 = .ok (.goto 209, 3) := by decide +kernel
theorem dX11_summedUp_162 : decode cX11_summedUp 162 = .ok (.iload 8, 2) := by decide +kernel
theorem dX11_summedUp_164 : decode cX11_summedUp 164 = .ok (.iconst 4, 1) := by decide +kernel
theorem dX11_summedUp_165 : decode cX11_summedUp 165 = .ok (.if_icmp .gt 47, 3) := by decide +kernel
theorem dX11_summedUp_168 : decode cX11_summedUp 168 = .ok (.aload_n 0, 1) := by decide +kernel
theorem dX11_summedUp_169 : decode cX11_summedUp 169 = .ok (.getfield 38, 3) := by decide +kernel
theorem dX11_summedUp_172 : decode cX11_summedUp 172 = .ok (.iload 5, 2) := by decide +kernel
theorem dX11_summedUp_174 : decode cX11_summedUp 174 = .ok (.iconst 1, 1) := by decide +kernel
theorem dX11_summedUp_175 : decode cX11_summedUp 175 = .ok (.isub, 1) := by decide +kernel
theorem dX11_summedUp_176 : decode cX11_summedUp 176 = .ok (.iload 8, 2) := by decide +kernel
theorem dX11_summedUp_178 : decode cX11_summedUp 178 = .ok (.iconst 4, 1) := by decide +kernel
theorem dX11_summedUp_179 : decode cX11_summedUp 179 = .ok (.if_icmp .ne 16, 3) := by decide +kernel
theorem dX11_summedUp_182 : decode cX11_summedUp 182 = .ok (.aload_n 0, 1) := by decide +kernel
theorem dX11_summedUp_183 : decode cX11_summedUp 183 = .ok (.getfield 38, 3) := by decide +kernel
theorem dX11_summedUp_186 : decode cX11_summedUp 186 = .ok (.iload 5, 2) := by decide +kernel
theorem dX11_summedUp_188 : decode cX11_summedUp 188 = .ok (.iconst 1, 1) := by decide +kernel
theorem dX11_summedUp_189 : decode cX11_summedUp 189 = .ok (.isub, 1) := by decide +kernel
theorem dX11_summedUp_190 : decode cX11_summedUp 190 = .ok (.laload, 1) := by decide +kernel
theorem dX11_summedUp_191 : decode cX11_summedUp 191 = .ok (.lneg, 1) := by decide +kernel
theorem dX11_summedUp_192 : decode cX11_summedUp 192 = .ok (.goto 16, 3) := by decide +kernel
theorem dX11_summedUp_195 : decode cX11_summedUp 195 = .ok (.aload_n 0, 1) := by decide +kernel
theorem dX11_summedUp_196 : decode cX11_summedUp 196 = .ok (.aload_n 0, 1) := by decide +kernel
theorem dX11_summedUp_197 : decode cX11_summedUp 197 = .ok (.getfield 38, 3) := by decide +kernel
theorem dX11_summedUp_200 : decode cX11_summedUp 200 = .ok (.iload 5, 2) := by decide +kernel
theorem dX11_summedUp_202 : decode cX11_summedUp 202 = .ok (.iconst 1, 1) := by decide +kernel
theorem dX11_summedUp_203 : decode cX11_summedUp 203 = .ok (.isub, 1) := by decide +kernel
theorem dX11_summedUp_204 : decode cX11_summedUp 204 = .ok (.laload, 1) := by decide +kernel
theorem dX11_summedUp_205 : decode cX11_summedUp 205 = .ok (.invokevirtual 290, 3) := by decide +kernel
theorem dX11_summedUp_208 : decode cX11_summedUp 208 = .ok (.lastore, 1) := by decide +kernel
theorem dX11_summedUp_209 : decode cX11_summedUp 209 = .ok (.goto 159, 3) := by decide +kernel
theorem dX11_summedUp_212 : decode cX11_summedUp 212 = .ok (.iload 8, 2) := by decide +kernel
theorem dX11_summedUp_214 : decode cX11_summedUp 214 = .ok (.bipush 10, 2) := by decide +kernel
theorem dX11_summedUp_216 : decode cX11_summedUp 216 = .ok (.if_icmp .ge 39, 3) := by decide +kernel
theorem dX11_summedUp_219 : decode cX11_summedUp 219 = .ok (.iinc 5 (-1), 3) := by decide +kernel
theorem dX11_summedUp_222 : decode cX11_summedUp 222 = .ok (.aload_n 0, 1) := by decide +kernel
theorem dX11_summedUp_223 : decode cX11_summedUp 223 = .ok (.getfield 38, 3) := by decide +kernel
theorem dX11_summedUp_226 : decode cX11_summedUp 226 = .ok (.iload 5, 2) := by decide +kernel
theorem dX11_summedUp_228 : decode cX11_summedUp 228 = .ok (.iconst 1, 1) := by decide +kernel
theorem dX11_summedUp_229 : decode cX11_summedUp 229 = .ok (.isub, 1) := by decide +kernel
theorem dX11_summedUp_230 : decode cX11_summedUp 230 = .ok (.iload 8, 2) := by decide +kernel
theorem dX11_summedUp_232 : decode cX11_summedUp 232 = .ok (.aload_n 0, 1) := by decide +kernel
theorem dX11_summedUp_233 : decode cX11_summedUp 233 = .ok (.getfield 38, 3) := by decide +kernel
theorem dX11_summedUp_236 : decode cX11_summedUp 236 = .ok (.iload 5, 2) := by decide +kernel
theorem dX11_summedUp_238 : decode cX11_summedUp 238 = .ok (.iconst 1, 1) := by decide +kernel
theorem dX11_summedUp_239 : decode cX11_summedUp 239 = .ok (.isub, 1) := by decide +kernel
theorem dX11_summedUp_240 : decode cX11_summedUp 240 = .ok (.laload, 1) := by decide +kernel
theorem dX11_summedUp_241 : decode cX11_summedUp 241 = .ok (.aload_n 0, 1) := by decide +kernel
theorem dX11_summedUp_242 : decode cX11_summedUp 242 = .ok (.getfield 38, 3) := by decide +kernel
theorem dX11_summedUp_245 : decode cX11_summedUp 245 = .ok (.iload 5, 2) := by decide +kernel
theorem dX11_summedUp_247 : decode cX11_summedUp 247 = .ok (.laload, 1) := by decide +kernel
theorem dX11_summedUp_248 : decode cX11_summedUp 248 = .ok (.invokestatic 293, 3) := by decide +kernel
theorem dX11_summedUp_251 : decode cX11_summedUp 251 = .ok (.lastore, 1) := by decide +kernel
theorem dX11_summedUp_252 : decode cX11_summedUp 252 = .ok (.goto 116, 3) := by decide +kernel
theorem dX11_summedUp_255 : decode cX11_summedUp 255 = .ok (.iload 8, 2) := by decide +kernel
theorem dX11_summedUp_257 : decode cX11_summedUp 257 = .ok (.bipush 20, 2) := by decide +kernel
theorem dX11_summedUp_259 : decode cX11_summedUp 259 = .ok (.if_icmp .ge 40, 3) := by decide +kernel
theorem dX11_summedUp_262 : decode cX11_summedUp 262 = .ok (.iinc 5 (-2), 3) := by decide +kernel
theorem dX11_summedUp_265 : decode cX11_summedUp 265 = .ok (.aload_n 0, 1) := by decide +kernel
theorem dX11_summedUp_266 : decode cX11_summedUp 266 = .ok (.getfield 42, 3) := by decide +kernel
theorem dX11_summedUp_269 : decode cX11_summedUp 269 = .ok (.iload 6, 2) := by decide +kernel
theorem dX11_summedUp_271 : decode cX11_summedUp 271 = .ok (.iload 8, 2) := by decide +kernel
theorem dX11_summedUp_273 : decode cX11_summedUp 273 = .ok (.aload_n 0, 1) := by decide +kernel
theorem dX11_summedUp_274 : decode cX11_summedUp 274 = .ok (.getfield 38, 3) := by decide +kernel
theorem dX11_summedUp_277 : decode cX11_summedUp 277 = .ok (.iload 5, 2) := by decide +kernel
theorem dX11_summedUp_279 : decode cX11_summedUp 279 = .ok (.laload, 1) := by decide +kernel
theorem dX11_summedUp_280 : decode cX11_summedUp 280 = .ok (.aload_n 0, 1) := by decide +kernel
theorem dX11_summedUp_281 : decode cX11_summedUp 281 = .ok (.getfield 38, 3) := by decide +kernel
theorem dX11_summedUp_284 : decode cX11_summedUp 284 = .ok (.iload 5, 2) := by decide +kernel
theorem dX11_summedUp_286 : decode cX11_summedUp 286 = .ok (.iconst 1, 1) := by decide +kernel
theorem dX11_summedUp_287 : decode cX11_summedUp 287 = .ok (.iadd, 1) := by decide +kernel
theorem dX11_summedUp_288 : decode cX11_summedUp 288 = .ok (.laload, 1) := by decide +kernel
theorem dX11_summedUp_289 : decode cX11_summedUp 289 = .ok (.invokestatic 297, 3) := by decide +kernel
theorem dX11_summedUp_292 : decode cX11_summedUp 292 = .ok (.bastore, 1) := by decide +kernel
theorem dX11_summedUp_293 : decode cX11_summedUp 293 = .ok (.iinc 6 1, 3) := by decide +kernel
theorem dX11_summedUp_296 : decode cX11_summedUp 296 = .ok (.goto 72, 3) := by decide +kernel
theorem dX11_summedUp_299 : decode cX11_summedUp 299 = .ok (.iload 8, 2) := by decide +kernel
theorem dX11_summedUp_301 : decode cX11_summedUp 301 = .ok (.bipush 20, 2) := by decide +kernel
theorem dX11_summedUp_303 : decode cX11_summedUp 303 = .ok (.if_icmp .ne 32, 3) := by decide +kernel
theorem dX11_summedUp_306 : decode cX11_summedUp 306 = .ok (.aload_n 0, 1) := by decide +kernel
theorem dX11_summedUp_307 : decode cX11_summedUp 307 = .ok (.getfield 42, 3) := by decide +kernel
theorem dX11_summedUp_310 : decode cX11_summedUp 310 = .ok (.iload 6, 2) := by decide +kernel
theorem dX11_summedUp_312 : decode cX11_summedUp 312 = .ok (.iconst 1, 1) := by decide +kernel
theorem dX11_summedUp_313 : decode cX11_summedUp 313 = .ok (.isub, 1) := by decide +kernel
theorem dX11_summedUp_314 : decode cX11_summedUp 314 = .ok (.aload_n 0, 1) := by decide +kernel
theorem dX11_summedUp_315 : decode cX11_summedUp 315 = .ok (.getfield 42, 3) := by decide +kernel
theorem dX11_summedUp_318 : decode cX11_summedUp 318 = .ok (.iload 6, 2) := by decide +kernel
theorem dX11_summedUp_320 : decode cX11_summedUp 320 = .ok (.iconst 1, 1) := by decide +kernel
theorem dX11_summedUp_321 : decode cX11_summedUp 321 = .ok (.isub, 1) := by decide +kernel
theorem dX11_summedUp_322 : decode cX11_summedUp 322 = .ok (.baload, 1) := by decide +kernel
theorem dX11_summedUp_323 : decode cX11_summedUp 323 = .ok (.ifCond .ne 7, 3) := by decide +kernel
theorem dX11_summedUp_326 : decode cX11_summedUp 326 = .ok (.iconst 1, 1) := by decide +kernel
theorem dX11_summedUp_327 : decode cX11_summedUp 327 = .ok (.goto 4, 3) := by decide +kernel
theorem dX11_summedUp_330 : decode cX11_summedUp 330 = .ok (.iconst 0, 1) := by decide +kernel
theorem dX11_summedUp_331 : decode cX11_summedUp 331 = .ok (.bastore, 1) := by decide +kernel
theorem dX11_summedUp_332 : decode cX11_summedUp 332 = .ok (.goto 36, 3) := by decide +kernel
theorem dX11_summedUp_335 : decode cX11_summedUp 335 = .ok (.iinc 6 (-1), 3) := by decide +kernel
theorem dX11_summedUp_338 : decode cX11_summedUp 338 = .ok (.aload_n 0, 1) := by decide +kernel
theorem dX11_summedUp_339 : decode cX11_summedUp 339 = .ok (.getfield 42, 3) := by decide +kernel
theorem dX11_summedUp_342 : decode cX11_summedUp 342 = .ok (.iload 6, 2) := by decide +kernel
theorem dX11_summedUp_344 : decode cX11_summedUp 344 = .ok (.iconst 1, 1) := by decide +kernel
theorem dX11_summedUp_345 : decode cX11_summedUp 345 = .ok (.isub, 1) := by decide +kernel
theorem dX11_summedUp_346 : decode cX11_summedUp 346 = .ok (.iload 8, 2) := by decide +kernel
theorem dX11_summedUp_348 : decode cX11_summedUp 348 = .ok (.aload_n 0, 1) := by decide +kernel
theorem dX11_summedUp_349 : decode cX11_summedUp 349 = .ok (.getfield 42, 3) := by decide +kernel
theorem dX11_summedUp_352 : decode cX11_summedUp 352 = .ok (.iload 6, 2) := by decide +kernel
theorem dX11_summedUp_354 : decode cX11_summedUp 354 = .ok (.iconst 1, 1) := by decide +kernel
theorem dX11_summedUp_355 : decode cX11_summedUp 355 = .ok (.isub, 1) := by decide +kernel
theorem dX11_summedUp_356 : decode cX11_summedUp 356 = .ok (.baload, 1) := by decide +kernel
theorem dX11_summedUp_357 : decode cX11_summedUp 357 = .ok (.aload_n 0, 1) := by decide +kernel
theorem dX11_summedUp_358 : decode cX11_summedUp 358 = .ok (.getfield 42, 3) := by decide +kernel
theorem dX11_summedUp_361 : decode cX11_summedUp 361 = .ok (.iload 6, 2) := by decide +kernel
theorem dX11_summedUp_363 : decode cX11_summedUp 363 = .ok (.baload, 1) := by decide +kernel
theorem dX11_summedUp_364 : decode cX11_summedUp 364 = .ok (.invokestatic 301, 3) := by decide +kernel
theorem dX11_summedUp_367 : decode cX11_summedUp 367 = .ok (.bastore, 1) := by decide +kernel
theorem dX11_summedUp_368 : decode cX11_summedUp 368 = .ok (.iinc 7 1, 3) := by decide +kernel
theorem dX11_summedUp_371 : decode cX11_summedUp 371 = .ok (.goto (-331), 3) := by decide +kernel
theorem dX11_summedUp_374 : decode cX11_summedUp 374 = .ok (.aload_n 0, 1) := by decide +kernel
theorem dX11_summedUp_375 : decode cX11_summedUp 375 = .ok (.getfield 38, 3) := by decide +kernel
theorem dX11_summedUp_378 : decode cX11_summedUp 378 = .ok (.iconst 0, 1) := by decide +kernel
theorem dX11_summedUp_379 : decode cX11_summedUp 379 = .ok (.laload, 1) := by decide +kernel
theorem dX11_summedUp_380 : decode cX11_summedUp 380 = .ok (.lreturn, 1) := by decide +kernel
theorem gX11_summedUp_0 {d : Nat} {M : ev_Mem} {Q : Option Value → ev_Mem → Prop} {x1 x2 : Int32} (h : (∀ v1 : Int32, v1 = ((945 * x1) + 1) + (14 * x2) → (vp_in (v1 + 1) 3780 ∧ (∀ v2 : Int32, v2 = M.1 4 (v1 + 1).toNatClampNeg → (Ev LM d mX11_summedUp 40 [some (.ref 0), none, none, some (.int v1), some (.int ((945 * x1) + 337)), some (.int 0), some (.int 0), some (.int v2), none, none] [] M Q))))) : Ev LM d mX11_summedUp 0 [some (.ref 0), some (.int x1), some (.int x2), none, none, none, none, none, none, none] [] M Q := by
  refine ev_sipush (v := 945) dX11_summedUp_0 (by decide) ?_
  refine ev_iload_n dX11_summedUp_3 rfl ?_
  refine ev_imul dX11_summedUp_4 ?_
  refine ev_iconst (v := 1) dX11_summedUp_5 (by decide) ?_
  refine ev_iadd dX11_summedUp_6 ?_
  refine ev_bipush (v := 14) dX11_summedUp_7 (by decide) ?_
  refine ev_iload_n dX11_summedUp_9 rfl ?_
  refine ev_imul dX11_summedUp_10 ?_
  refine ev_iadd dX11_summedUp_11 ?_
  refine ev_istore_n (ls2 := [some (.ref 0), some (.int x1), some (.int x2), some (.int (((945 * x1) + 1) + (14 * x2))), none, none, none, none, none, none]) dX11_summedUp_12 (Nat.le_of_ble_eq_true rfl) rfl ?_
  generalize ev1 : ((945 * x1) + 1) + (14 * x2) = v1
  replace h := h v1 ev1.symm
  refine ev_sipush (v := 945) dX11_summedUp_13 (by decide) ?_
  refine ev_iload_n dX11_summedUp_16 rfl ?_
  refine ev_imul dX11_summedUp_17 ?_
  refine ev_sipush (v := 337) dX11_summedUp_18 (by decide) ?_
  refine ev_iadd dX11_summedUp_21 ?_
  refine ev_istore (ls2 := [some (.ref 0), some (.int x1), some (.int x2), some (.int v1), some (.int ((945 * x1) + 337)), none, none, none, none, none]) dX11_summedUp_22 (Nat.le_of_ble_eq_true rfl) rfl ?_
  refine ev_iconst (v := 0) dX11_summedUp_24 (by decide) ?_
  refine ev_istore (ls2 := [some (.ref 0), some (.int x1), some (.int x2), some (.int v1), some (.int ((945 * x1) + 337)), some (.int 0), none, none, none, none]) dX11_summedUp_25 (Nat.le_of_ble_eq_true rfl) rfl ?_
  refine ev_iconst (v := 0) dX11_summedUp_27 (by decide) ?_
  refine ev_istore (ls2 := [some (.ref 0), some (.int x1), some (.int x2), some (.int v1), some (.int ((945 * x1) + 337)), some (.int 0), some (.int 0), none, none, none]) dX11_summedUp_28 (Nat.le_of_ble_eq_true rfl) rfl ?_
  refine ev_aload_n dX11_summedUp_30 rfl ?_
  refine ev_getA dX11_summedUp_31 fl_WithoutEModel_19 lm_0 rfl ?_
  refine ev_iload_n dX11_summedUp_34 rfl ?_
  refine ev_iconst (v := 1) dX11_summedUp_35 (by decide) ?_
  refine ev_iadd dX11_summedUp_36 ?_
  obtain ⟨c, h⟩ := h
  refine ev_iald dX11_summedUp_37 lm_4 c ?_
  refine ev_istore (ls2 := [some (.ref 0), some (.int x1), some (.int x2), some (.int v1), some (.int ((945 * x1) + 337)), some (.int 0), some (.int 0), some (.int (M.1 4 (v1 + 1).toNatClampNeg)), none, none]) dX11_summedUp_38 (Nat.le_of_ble_eq_true rfl) rfl ?_
  generalize ev2 : M.1 4 (v1 + 1).toNatClampNeg = v2
  replace h := h v2 ev2.symm
  refine Ev.weak (ls := [some (.ref 0), none, none, some (.int v1), some (.int ((945 * x1) + 337)), some (.int 0), some (.int 0), some (.int v2), none, none]) ⟨rfl, rfl, rfl, rfl, rfl, rfl, trivial⟩ ?_
  exact h
theorem gX11_summedUp_40 {d : Nat} {M : ev_Mem} {Q : Option Value → ev_Mem → Prop} {x3 x4 x5 x6 x7 : Int32} (h : (vp_in (x3 + 2) 3780 ∧ ((((M.1 4 (x3 + 2).toNatClampNeg) ≤ x7) → (vp_in 0 330 ∧ (Q (some (.long (M.2 8 (0 : Int32).toNatClampNeg))) M))) ∧ ((¬ (M.1 4 (x3 + 2).toNatClampNeg) ≤ x7) → (vp_in (x4 + (2 * x7)) 3780 ∧ (∀ v1 : Int32, v1 = M.1 4 (x4 + (2 * x7)).toNatClampNeg → (vp_in ((x4 + (2 * x7)) + 1) 3780 ∧ (∀ v2 : Int32, v2 = M.1 4 ((x4 + (2 * x7)) + 1).toNatClampNeg → (((1 < v1) → (((¬ v1 = 3) → (((4 < v1) → (((10 ≤ v1) → (((20 ≤ v1) → (((¬ v1 = 20) → (vp_in ((x6 + (-1)) - 1) 330 ∧ (vp_in (x6 + (-1)) 330 ∧ (vp_in ((x6 + (-1)) - 1) 330 ∧ (∀ M1 : ev_Mem, M1 = ev_wr M 9 ((x6 + (-1)) - 1).toNatClampNeg (bi (jnb v1 (M.1 9 ((x6 + (-1)) - 1).toNatClampNeg) (M.1 9 (x6 + (-1)).toNatClampNeg))) → (Ev LM (d + 2) mX11_summedUp 40 [some (.ref 0), none, none, some (.int x3), some (.int x4), some (.int x5), some (.int (x6 + (-1))), some (.int (x7 + 1)), none, none] [] M1 Q)))))) ∧ ((v1 = 20) → (vp_in (x6 - 1) 330 ∧ (((¬ (M.1 9 (x6 - 1).toNatClampNeg) = 0) → (vp_in (x6 - 1) 330 ∧ (∀ M2 : ev_Mem, M2 = ev_wr M 9 (x6 - 1).toNatClampNeg 0 → (Ev LM (d + 2) mX11_summedUp 40 [some (.ref 0), none, none, some (.int x3), some (.int x4), some (.int x5), some (.int x6), some (.int (x7 + 1)), none, none] [] M2 Q)))) ∧ (((M.1 9 (x6 - 1).toNatClampNeg) = 0) → (vp_in (x6 - 1) 330 ∧ (∀ M3 : ev_Mem, M3 = ev_wr M 9 (x6 - 1).toNatClampNeg 1 → (Ev LM (d + 2) mX11_summedUp 40 [some (.ref 0), none, none, some (.int x3), some (.int x4), some (.int x5), some (.int x6), some (.int (x7 + 1)), none, none] [] M3 Q))))))))) ∧ ((¬ 20 ≤ v1) → (vp_in (x5 + (-2)) 330 ∧ (vp_in ((x5 + (-2)) + 1) 330 ∧ (vp_in x6 330 ∧ (∀ M4 : ev_Mem, M4 = ev_wr M 9 x6.toNatClampNeg (bi (asq v1 (M.2 8 (x5 + (-2)).toNatClampNeg) (M.2 8 ((x5 + (-2)) + 1).toNatClampNeg))) → (Ev LM (d + 2) mX11_summedUp 40 [some (.ref 0), none, none, some (.int x3), some (.int x4), some (.int (x5 + (-2))), some (.int (x6 + 1)), some (.int (x7 + 1)), none, none] [] M4 Q)))))))) ∧ ((¬ 10 ≤ v1) → (vp_in ((x5 + (-1)) - 1) 330 ∧ (vp_in (x5 + (-1)) 330 ∧ (vp_in ((x5 + (-1)) - 1) 330 ∧ (∀ M5 : ev_Mem, M5 = ev_wl M 8 ((x5 + (-1)) - 1).toNatClampNeg (tw v1 (M.2 8 ((x5 + (-1)) - 1).toNatClampNeg) (M.2 8 (x5 + (-1)).toNatClampNeg)) → (Ev LM (d + 2) mX11_summedUp 40 [some (.ref 0), none, none, some (.int x3), some (.int x4), some (.int (x5 + (-1))), some (.int x6), some (.int (x7 + 1)), none, none] [] M5 Q)))))))) ∧ ((¬ 4 < v1) → (((¬ v1 = 4) → (vp_in (x5 - 1) 330 ∧ (vp_in (x5 - 1) 330 ∧ (∀ M6 : ev_Mem, M6 = ev_wl M 8 (x5 - 1).toNatClampNeg (usv M (M.2 8 (x5 - 1).toNatClampNeg)) → (Ev LM (d + 2) mX11_summedUp 40 [some (.ref 0), none, none, some (.int x3), some (.int x4), some (.int x5), some (.int x6), some (.int (x7 + 1)), none, none] [] M6 Q))))) ∧ ((v1 = 4) → (vp_in (x5 - 1) 330 ∧ (vp_in (x5 - 1) 330 ∧ (∀ M7 : ev_Mem, M7 = ev_wl M 8 (x5 - 1).toNatClampNeg (-(M.2 8 (x5 - 1).toNatClampNeg)) → (Ev LM (d + 2) mX11_summedUp 40 [some (.ref 0), none, none, some (.int x3), some (.int x4), some (.int x5), some (.int x6), some (.int (x7 + 1)), none, none] [] M7 Q))))))))) ∧ ((v1 = 3) → (vp_in (x6 + (-1)) 330 ∧ (((¬ (M.1 9 (x6 + (-1)).toNatClampNeg) = 0) → (Ev LM (d + 2) mX11_summedUp 40 [some (.ref 0), none, none, some (.int x3), some (.int x4), some (.int (x5 + (-1))), some (.int (x6 + (-1))), some (.int (x7 + 1)), none, none] [] M Q)) ∧ (((M.1 9 (x6 + (-1)).toNatClampNeg) = 0) → (vp_in (x5 + (-1)) 330 ∧ (vp_in ((x5 + (-1)) - 1) 330 ∧ (∀ M8 : ev_Mem, M8 = ev_wl M 8 ((x5 + (-1)) - 1).toNatClampNeg (M.2 8 (x5 + (-1)).toNatClampNeg) → (Ev LM (d + 2) mX11_summedUp 40 [some (.ref 0), none, none, some (.int x3), some (.int x4), some (.int (x5 + (-1))), some (.int (x6 + (-1))), some (.int (x7 + 1)), none, none] [] M8 Q)))))))))) ∧ ((¬ 1 < v1) → (((¬ v1 = 0) → (vp_in v2 12 ∧ (vp_in x5 330 ∧ (∀ M9 : ev_Mem, M9 = ev_wl M 8 x5.toNatClampNeg ((M.1 7 v2.toNatClampNeg : Int32).toInt64) → (Ev LM (d + 2) mX11_summedUp 40 [some (.ref 0), none, none, some (.int x3), some (.int x4), some (.int (x5 + 1)), some (.int x6), some (.int (x7 + 1)), none, none] [] M9 Q))))) ∧ ((v1 = 0) → (vp_in x5 330 ∧ (∀ M10 : ev_Mem, M10 = ev_wl M 8 x5.toNatClampNeg ((v2 : Int32).toInt64) → (Ev LM (d + 2) mX11_summedUp 40 [some (.ref 0), none, none, some (.int x3), some (.int x4), some (.int (x5 + 1)), some (.int x6), some (.int (x7 + 1)), none, none] [] M10 Q))))))))))))))) : Ev LM (d + 2) mX11_summedUp 40 [some (.ref 0), none, none, some (.int x3), some (.int x4), some (.int x5), some (.int x6), some (.int x7), none, none] [] M Q := by
  refine ev_iload dX11_summedUp_40 rfl ?_
  refine ev_aload_n dX11_summedUp_42 rfl ?_
  refine ev_getA dX11_summedUp_43 fl_WithoutEModel_19 lm_0 rfl ?_
  refine ev_iload_n dX11_summedUp_46 rfl ?_
  refine ev_iconst (v := 2) dX11_summedUp_47 (by decide) ?_
  refine ev_iadd dX11_summedUp_48 ?_
  obtain ⟨c, h⟩ := h
  refine ev_iald dX11_summedUp_49 lm_4 c ?_
  refine ev_icmp_ge (tgt := 374) dX11_summedUp_50 (by decide) (fun c => ?_) (fun c => ?_)
  · replace h := h.1 c
    refine ev_aload_n dX11_summedUp_374 rfl ?_
    refine ev_getA dX11_summedUp_375 fl_WithoutEModel_38 lm_0 rfl ?_
    refine ev_iconst (v := 0) dX11_summedUp_378 (by decide) ?_
    obtain ⟨c, h⟩ := h
    refine ev_lald dX11_summedUp_379 lm_8 c ?_
    exact ev_lret dX11_summedUp_380 rfl h
  · replace h := h.2 c
    refine ev_aload_n dX11_summedUp_53 rfl ?_
    refine ev_getA dX11_summedUp_54 fl_WithoutEModel_19 lm_0 rfl ?_
    refine ev_iload dX11_summedUp_57 rfl ?_
    refine ev_iconst (v := 2) dX11_summedUp_59 (by decide) ?_
    refine ev_iload dX11_summedUp_60 rfl ?_
    refine ev_imul dX11_summedUp_62 ?_
    refine ev_iadd dX11_summedUp_63 ?_
    obtain ⟨c, h⟩ := h
    refine ev_iald dX11_summedUp_64 lm_4 c ?_
    refine ev_istore (ls2 := [some (.ref 0), none, none, some (.int x3), some (.int x4), some (.int x5), some (.int x6), some (.int x7), some (.int (M.1 4 (x4 + (2 * x7)).toNatClampNeg)), none]) dX11_summedUp_65 (Nat.le_of_ble_eq_true rfl) rfl ?_
    generalize ev1 : M.1 4 (x4 + (2 * x7)).toNatClampNeg = v1
    replace h := h v1 ev1.symm
    refine ev_aload_n dX11_summedUp_67 rfl ?_
    refine ev_getA dX11_summedUp_68 fl_WithoutEModel_19 lm_0 rfl ?_
    refine ev_iload dX11_summedUp_71 rfl ?_
    refine ev_iconst (v := 2) dX11_summedUp_73 (by decide) ?_
    refine ev_iload dX11_summedUp_74 rfl ?_
    refine ev_imul dX11_summedUp_76 ?_
    refine ev_iadd dX11_summedUp_77 ?_
    refine ev_iconst (v := 1) dX11_summedUp_78 (by decide) ?_
    refine ev_iadd dX11_summedUp_79 ?_
    obtain ⟨c, h⟩ := h
    refine ev_iald dX11_summedUp_80 lm_4 c ?_
    refine ev_istore (ls2 := [some (.ref 0), none, none, some (.int x3), some (.int x4), some (.int x5), some (.int x6), some (.int x7), some (.int v1), some (.int (M.1 4 ((x4 + (2 * x7)) + 1).toNatClampNeg))]) dX11_summedUp_81 (Nat.le_of_ble_eq_true rfl) rfl ?_
    generalize ev2 : M.1 4 ((x4 + (2 * x7)) + 1).toNatClampNeg = v2
    replace h := h v2 ev2.symm
    refine ev_iload dX11_summedUp_83 rfl ?_
    refine ev_iconst (v := 1) dX11_summedUp_85 (by decide) ?_
    refine ev_icmp_gt (tgt := 121) dX11_summedUp_86 (by decide) (fun c => ?_) (fun c => ?_)
    · replace h := h.1 c
      refine ev_iload dX11_summedUp_121 rfl ?_
      refine ev_iconst (v := 3) dX11_summedUp_123 (by decide) ?_
      refine ev_icmp_ne (tgt := 162) dX11_summedUp_124 (by decide) (fun c => ?_) (fun c => ?_)
      · replace h := h.1 c
        refine ev_iload dX11_summedUp_162 rfl ?_
        refine ev_iconst (v := 4) dX11_summedUp_164 (by decide) ?_
        refine ev_icmp_gt (tgt := 212) dX11_summedUp_165 (by decide) (fun c => ?_) (fun c => ?_)
        · replace h := h.1 c
          refine ev_iload dX11_summedUp_212 rfl ?_
          refine ev_bipush (v := 10) dX11_summedUp_214 (by decide) ?_
          refine ev_icmp_ge (tgt := 255) dX11_summedUp_216 (by decide) (fun c => ?_) (fun c => ?_)
          · replace h := h.1 c
            refine ev_iload dX11_summedUp_255 rfl ?_
            refine ev_bipush (v := 20) dX11_summedUp_257 (by decide) ?_
            refine ev_icmp_ge (tgt := 299) dX11_summedUp_259 (by decide) (fun c => ?_) (fun c => ?_)
            · replace h := h.1 c
              refine ev_iload dX11_summedUp_299 rfl ?_
              refine ev_bipush (v := 20) dX11_summedUp_301 (by decide) ?_
              refine ev_icmp_ne (tgt := 335) dX11_summedUp_303 (by decide) (fun c => ?_) (fun c => ?_)
              · replace h := h.1 c
                refine ev_iinc (v := x6 + (-1)) (ls2 := [some (.ref 0), none, none, some (.int x3), some (.int x4), some (.int x5), some (.int (x6 + (-1))), some (.int x7), some (.int v1), some (.int v2)]) dX11_summedUp_335 rfl rfl rfl ?_
                refine ev_aload_n dX11_summedUp_338 rfl ?_
                refine ev_getA dX11_summedUp_339 fl_WithoutEModel_42 lm_0 rfl ?_
                refine ev_iload dX11_summedUp_342 rfl ?_
                refine ev_iconst (v := 1) dX11_summedUp_344 (by decide) ?_
                refine ev_isub dX11_summedUp_345 ?_
                refine ev_iload dX11_summedUp_346 rfl ?_
                refine ev_aload_n dX11_summedUp_348 rfl ?_
                refine ev_getA dX11_summedUp_349 fl_WithoutEModel_42 lm_0 rfl ?_
                refine ev_iload dX11_summedUp_352 rfl ?_
                refine ev_iconst (v := 1) dX11_summedUp_354 (by decide) ?_
                refine ev_isub dX11_summedUp_355 ?_
                obtain ⟨c, h⟩ := h
                refine ev_zald dX11_summedUp_356 lm_9 c ?_
                refine ev_aload_n dX11_summedUp_357 rfl ?_
                refine ev_getA dX11_summedUp_358 fl_WithoutEModel_42 lm_0 rfl ?_
                refine ev_iload dX11_summedUp_361 rfl ?_
                obtain ⟨c, h⟩ := h
                refine ev_zald dX11_summedUp_363 lm_9 c ?_
                refine ev_callS [.int v1, .int (M.1 9 ((x6 + (-1)) - 1).toNatClampNeg), .int (M.1 9 (x6 + (-1)).toNatClampNeg)] dX11_summedUp_364 ml_WithoutEModel_301 rfl (Nat.le_of_ble_eq_true rfl) (kX11_joined) ?_
                rintro zr zM ⟨q1, q2⟩
                rw [q1, q2]
                show Ev LM (d + 2) mX11_summedUp 367 [some (.ref 0), none, none, some (.int x3), some (.int x4), some (.int x5), some (.int (x6 + (-1))), some (.int x7), some (.int v1), some (.int v2)] [(.int (bi (jnb v1 (M.1 9 ((x6 + (-1)) - 1).toNatClampNeg) (M.1 9 (x6 + (-1)).toNatClampNeg)))), (.int ((x6 + (-1)) - 1)), (.ref 9)] M Q
                obtain ⟨c, h⟩ := h
                refine ev_zast dX11_summedUp_367 lm_9 c (bi_vn _) ?_
                generalize eM1 : ev_wr M 9 ((x6 + (-1)) - 1).toNatClampNeg (bi (jnb v1 (M.1 9 ((x6 + (-1)) - 1).toNatClampNeg) (M.1 9 (x6 + (-1)).toNatClampNeg))) = M1
                replace h := h M1 eM1.symm
                refine ev_iinc (v := x7 + 1) (ls2 := [some (.ref 0), none, none, some (.int x3), some (.int x4), some (.int x5), some (.int (x6 + (-1))), some (.int (x7 + 1)), some (.int v1), some (.int v2)]) dX11_summedUp_368 rfl rfl rfl ?_
                refine ev_goto (tgt := 40) dX11_summedUp_371 (by decide) ?_
                refine Ev.weak (ls := [some (.ref 0), none, none, some (.int x3), some (.int x4), some (.int x5), some (.int (x6 + (-1))), some (.int (x7 + 1)), none, none]) ⟨rfl, rfl, rfl, rfl, rfl, rfl, trivial⟩ ?_
                exact h
              · replace h := h.2 c
                refine ev_aload_n dX11_summedUp_306 rfl ?_
                refine ev_getA dX11_summedUp_307 fl_WithoutEModel_42 lm_0 rfl ?_
                refine ev_iload dX11_summedUp_310 rfl ?_
                refine ev_iconst (v := 1) dX11_summedUp_312 (by decide) ?_
                refine ev_isub dX11_summedUp_313 ?_
                refine ev_aload_n dX11_summedUp_314 rfl ?_
                refine ev_getA dX11_summedUp_315 fl_WithoutEModel_42 lm_0 rfl ?_
                refine ev_iload dX11_summedUp_318 rfl ?_
                refine ev_iconst (v := 1) dX11_summedUp_320 (by decide) ?_
                refine ev_isub dX11_summedUp_321 ?_
                obtain ⟨c, h⟩ := h
                refine ev_zald dX11_summedUp_322 lm_9 c ?_
                refine ev_if_ne (tgt := 330) dX11_summedUp_323 (by decide) (fun c => ?_) (fun c => ?_)
                · replace h := h.1 c
                  refine ev_iconst (v := 0) dX11_summedUp_330 (by decide) ?_
                  obtain ⟨c, h⟩ := h
                  refine ev_zast dX11_summedUp_331 lm_9 c (by decide) ?_
                  generalize eM2 : ev_wr M 9 (x6 - 1).toNatClampNeg 0 = M2
                  replace h := h M2 eM2.symm
                  refine ev_goto (tgt := 368) dX11_summedUp_332 (by decide) ?_
                  refine ev_iinc (v := x7 + 1) (ls2 := [some (.ref 0), none, none, some (.int x3), some (.int x4), some (.int x5), some (.int x6), some (.int (x7 + 1)), some (.int v1), some (.int v2)]) dX11_summedUp_368 rfl rfl rfl ?_
                  refine ev_goto (tgt := 40) dX11_summedUp_371 (by decide) ?_
                  refine Ev.weak (ls := [some (.ref 0), none, none, some (.int x3), some (.int x4), some (.int x5), some (.int x6), some (.int (x7 + 1)), none, none]) ⟨rfl, rfl, rfl, rfl, rfl, rfl, trivial⟩ ?_
                  exact h
                · replace h := h.2 c
                  refine ev_iconst (v := 1) dX11_summedUp_326 (by decide) ?_
                  refine ev_goto (tgt := 331) dX11_summedUp_327 (by decide) ?_
                  obtain ⟨c, h⟩ := h
                  refine ev_zast dX11_summedUp_331 lm_9 c (by decide) ?_
                  generalize eM3 : ev_wr M 9 (x6 - 1).toNatClampNeg 1 = M3
                  replace h := h M3 eM3.symm
                  refine ev_goto (tgt := 368) dX11_summedUp_332 (by decide) ?_
                  refine ev_iinc (v := x7 + 1) (ls2 := [some (.ref 0), none, none, some (.int x3), some (.int x4), some (.int x5), some (.int x6), some (.int (x7 + 1)), some (.int v1), some (.int v2)]) dX11_summedUp_368 rfl rfl rfl ?_
                  refine ev_goto (tgt := 40) dX11_summedUp_371 (by decide) ?_
                  refine Ev.weak (ls := [some (.ref 0), none, none, some (.int x3), some (.int x4), some (.int x5), some (.int x6), some (.int (x7 + 1)), none, none]) ⟨rfl, rfl, rfl, rfl, rfl, rfl, trivial⟩ ?_
                  exact h
            · replace h := h.2 c
              refine ev_iinc (v := x5 + (-2)) (ls2 := [some (.ref 0), none, none, some (.int x3), some (.int x4), some (.int (x5 + (-2))), some (.int x6), some (.int x7), some (.int v1), some (.int v2)]) dX11_summedUp_262 rfl rfl rfl ?_
              refine ev_aload_n dX11_summedUp_265 rfl ?_
              refine ev_getA dX11_summedUp_266 fl_WithoutEModel_42 lm_0 rfl ?_
              refine ev_iload dX11_summedUp_269 rfl ?_
              refine ev_iload dX11_summedUp_271 rfl ?_
              refine ev_aload_n dX11_summedUp_273 rfl ?_
              refine ev_getA dX11_summedUp_274 fl_WithoutEModel_38 lm_0 rfl ?_
              refine ev_iload dX11_summedUp_277 rfl ?_
              obtain ⟨c, h⟩ := h
              refine ev_lald dX11_summedUp_279 lm_8 c ?_
              refine ev_aload_n dX11_summedUp_280 rfl ?_
              refine ev_getA dX11_summedUp_281 fl_WithoutEModel_38 lm_0 rfl ?_
              refine ev_iload dX11_summedUp_284 rfl ?_
              refine ev_iconst (v := 1) dX11_summedUp_286 (by decide) ?_
              refine ev_iadd dX11_summedUp_287 ?_
              obtain ⟨c, h⟩ := h
              refine ev_lald dX11_summedUp_288 lm_8 c ?_
              refine ev_callS [.int v1, .long (M.2 8 (x5 + (-2)).toNatClampNeg), .long (M.2 8 ((x5 + (-2)) + 1).toNatClampNeg)] dX11_summedUp_289 ml_WithoutEModel_297 rfl (Nat.le_of_ble_eq_true rfl) (kX11_isAsked) ?_
              rintro zr zM ⟨q1, q2⟩
              rw [q1, q2]
              show Ev LM (d + 2) mX11_summedUp 292 [some (.ref 0), none, none, some (.int x3), some (.int x4), some (.int (x5 + (-2))), some (.int x6), some (.int x7), some (.int v1), some (.int v2)] [(.int (bi (asq v1 (M.2 8 (x5 + (-2)).toNatClampNeg) (M.2 8 ((x5 + (-2)) + 1).toNatClampNeg)))), (.int x6), (.ref 9)] M Q
              obtain ⟨c, h⟩ := h
              refine ev_zast dX11_summedUp_292 lm_9 c (bi_vn _) ?_
              generalize eM4 : ev_wr M 9 x6.toNatClampNeg (bi (asq v1 (M.2 8 (x5 + (-2)).toNatClampNeg) (M.2 8 ((x5 + (-2)) + 1).toNatClampNeg))) = M4
              replace h := h M4 eM4.symm
              refine ev_iinc (v := x6 + 1) (ls2 := [some (.ref 0), none, none, some (.int x3), some (.int x4), some (.int (x5 + (-2))), some (.int (x6 + 1)), some (.int x7), some (.int v1), some (.int v2)]) dX11_summedUp_293 rfl rfl rfl ?_
              refine ev_goto (tgt := 368) dX11_summedUp_296 (by decide) ?_
              refine ev_iinc (v := x7 + 1) (ls2 := [some (.ref 0), none, none, some (.int x3), some (.int x4), some (.int (x5 + (-2))), some (.int (x6 + 1)), some (.int (x7 + 1)), some (.int v1), some (.int v2)]) dX11_summedUp_368 rfl rfl rfl ?_
              refine ev_goto (tgt := 40) dX11_summedUp_371 (by decide) ?_
              refine Ev.weak (ls := [some (.ref 0), none, none, some (.int x3), some (.int x4), some (.int (x5 + (-2))), some (.int (x6 + 1)), some (.int (x7 + 1)), none, none]) ⟨rfl, rfl, rfl, rfl, rfl, rfl, trivial⟩ ?_
              exact h
          · replace h := h.2 c
            refine ev_iinc (v := x5 + (-1)) (ls2 := [some (.ref 0), none, none, some (.int x3), some (.int x4), some (.int (x5 + (-1))), some (.int x6), some (.int x7), some (.int v1), some (.int v2)]) dX11_summedUp_219 rfl rfl rfl ?_
            refine ev_aload_n dX11_summedUp_222 rfl ?_
            refine ev_getA dX11_summedUp_223 fl_WithoutEModel_38 lm_0 rfl ?_
            refine ev_iload dX11_summedUp_226 rfl ?_
            refine ev_iconst (v := 1) dX11_summedUp_228 (by decide) ?_
            refine ev_isub dX11_summedUp_229 ?_
            refine ev_iload dX11_summedUp_230 rfl ?_
            refine ev_aload_n dX11_summedUp_232 rfl ?_
            refine ev_getA dX11_summedUp_233 fl_WithoutEModel_38 lm_0 rfl ?_
            refine ev_iload dX11_summedUp_236 rfl ?_
            refine ev_iconst (v := 1) dX11_summedUp_238 (by decide) ?_
            refine ev_isub dX11_summedUp_239 ?_
            obtain ⟨c, h⟩ := h
            refine ev_lald dX11_summedUp_240 lm_8 c ?_
            refine ev_aload_n dX11_summedUp_241 rfl ?_
            refine ev_getA dX11_summedUp_242 fl_WithoutEModel_38 lm_0 rfl ?_
            refine ev_iload dX11_summedUp_245 rfl ?_
            obtain ⟨c, h⟩ := h
            refine ev_lald dX11_summedUp_247 lm_8 c ?_
            refine ev_callS [.int v1, .long (M.2 8 ((x5 + (-1)) - 1).toNatClampNeg), .long (M.2 8 (x5 + (-1)).toNatClampNeg)] dX11_summedUp_248 ml_WithoutEModel_293 rfl (Nat.le_of_ble_eq_true rfl) (kX11_two) ?_
            rintro zr zM ⟨q1, q2⟩
            rw [q1, q2]
            show Ev LM (d + 2) mX11_summedUp 251 [some (.ref 0), none, none, some (.int x3), some (.int x4), some (.int (x5 + (-1))), some (.int x6), some (.int x7), some (.int v1), some (.int v2)] [(.long (tw v1 (M.2 8 ((x5 + (-1)) - 1).toNatClampNeg) (M.2 8 (x5 + (-1)).toNatClampNeg))), (.int ((x5 + (-1)) - 1)), (.ref 8)] M Q
            obtain ⟨c, h⟩ := h
            refine ev_last dX11_summedUp_251 lm_8 c ?_
            generalize eM5 : ev_wl M 8 ((x5 + (-1)) - 1).toNatClampNeg (tw v1 (M.2 8 ((x5 + (-1)) - 1).toNatClampNeg) (M.2 8 (x5 + (-1)).toNatClampNeg)) = M5
            replace h := h M5 eM5.symm
            refine ev_goto (tgt := 368) dX11_summedUp_252 (by decide) ?_
            refine ev_iinc (v := x7 + 1) (ls2 := [some (.ref 0), none, none, some (.int x3), some (.int x4), some (.int (x5 + (-1))), some (.int x6), some (.int (x7 + 1)), some (.int v1), some (.int v2)]) dX11_summedUp_368 rfl rfl rfl ?_
            refine ev_goto (tgt := 40) dX11_summedUp_371 (by decide) ?_
            refine Ev.weak (ls := [some (.ref 0), none, none, some (.int x3), some (.int x4), some (.int (x5 + (-1))), some (.int x6), some (.int (x7 + 1)), none, none]) ⟨rfl, rfl, rfl, rfl, rfl, rfl, trivial⟩ ?_
            exact h
        · replace h := h.2 c
          refine ev_aload_n dX11_summedUp_168 rfl ?_
          refine ev_getA dX11_summedUp_169 fl_WithoutEModel_38 lm_0 rfl ?_
          refine ev_iload dX11_summedUp_172 rfl ?_
          refine ev_iconst (v := 1) dX11_summedUp_174 (by decide) ?_
          refine ev_isub dX11_summedUp_175 ?_
          refine ev_iload dX11_summedUp_176 rfl ?_
          refine ev_iconst (v := 4) dX11_summedUp_178 (by decide) ?_
          refine ev_icmp_ne (tgt := 195) dX11_summedUp_179 (by decide) (fun c => ?_) (fun c => ?_)
          · replace h := h.1 c
            refine ev_aload_n dX11_summedUp_195 rfl ?_
            refine ev_aload_n dX11_summedUp_196 rfl ?_
            refine ev_getA dX11_summedUp_197 fl_WithoutEModel_38 lm_0 rfl ?_
            refine ev_iload dX11_summedUp_200 rfl ?_
            refine ev_iconst (v := 1) dX11_summedUp_202 (by decide) ?_
            refine ev_isub dX11_summedUp_203 ?_
            obtain ⟨c, h⟩ := h
            refine ev_lald dX11_summedUp_204 lm_8 c ?_
            refine ev_callV [.long (M.2 8 (x5 - 1).toNatClampNeg)] dX11_summedUp_205 ml_WithoutEModel_290 lm_0 rfl rfl (Nat.le_of_ble_eq_true rfl) (kX11_usesOf) ?_
            rintro zr zM ⟨q1, q2⟩
            rw [q1, q2]
            show Ev LM (d + 2) mX11_summedUp 208 [some (.ref 0), none, none, some (.int x3), some (.int x4), some (.int x5), some (.int x6), some (.int x7), some (.int v1), some (.int v2)] [(.long (usv M (M.2 8 (x5 - 1).toNatClampNeg))), (.int (x5 - 1)), (.ref 8)] M Q
            obtain ⟨c, h⟩ := h
            refine ev_last dX11_summedUp_208 lm_8 c ?_
            generalize eM6 : ev_wl M 8 (x5 - 1).toNatClampNeg (usv M (M.2 8 (x5 - 1).toNatClampNeg)) = M6
            replace h := h M6 eM6.symm
            refine ev_goto (tgt := 368) dX11_summedUp_209 (by decide) ?_
            refine ev_iinc (v := x7 + 1) (ls2 := [some (.ref 0), none, none, some (.int x3), some (.int x4), some (.int x5), some (.int x6), some (.int (x7 + 1)), some (.int v1), some (.int v2)]) dX11_summedUp_368 rfl rfl rfl ?_
            refine ev_goto (tgt := 40) dX11_summedUp_371 (by decide) ?_
            refine Ev.weak (ls := [some (.ref 0), none, none, some (.int x3), some (.int x4), some (.int x5), some (.int x6), some (.int (x7 + 1)), none, none]) ⟨rfl, rfl, rfl, rfl, rfl, rfl, trivial⟩ ?_
            exact h
          · replace h := h.2 c
            refine ev_aload_n dX11_summedUp_182 rfl ?_
            refine ev_getA dX11_summedUp_183 fl_WithoutEModel_38 lm_0 rfl ?_
            refine ev_iload dX11_summedUp_186 rfl ?_
            refine ev_iconst (v := 1) dX11_summedUp_188 (by decide) ?_
            refine ev_isub dX11_summedUp_189 ?_
            obtain ⟨c, h⟩ := h
            refine ev_lald dX11_summedUp_190 lm_8 c ?_
            refine ev_lneg dX11_summedUp_191 ?_
            refine ev_goto (tgt := 208) dX11_summedUp_192 (by decide) ?_
            obtain ⟨c, h⟩ := h
            refine ev_last dX11_summedUp_208 lm_8 c ?_
            generalize eM7 : ev_wl M 8 (x5 - 1).toNatClampNeg (-(M.2 8 (x5 - 1).toNatClampNeg)) = M7
            replace h := h M7 eM7.symm
            refine ev_goto (tgt := 368) dX11_summedUp_209 (by decide) ?_
            refine ev_iinc (v := x7 + 1) (ls2 := [some (.ref 0), none, none, some (.int x3), some (.int x4), some (.int x5), some (.int x6), some (.int (x7 + 1)), some (.int v1), some (.int v2)]) dX11_summedUp_368 rfl rfl rfl ?_
            refine ev_goto (tgt := 40) dX11_summedUp_371 (by decide) ?_
            refine Ev.weak (ls := [some (.ref 0), none, none, some (.int x3), some (.int x4), some (.int x5), some (.int x6), some (.int (x7 + 1)), none, none]) ⟨rfl, rfl, rfl, rfl, rfl, rfl, trivial⟩ ?_
            exact h
      · replace h := h.2 c
        refine ev_iinc (v := x5 + (-1)) (ls2 := [some (.ref 0), none, none, some (.int x3), some (.int x4), some (.int (x5 + (-1))), some (.int x6), some (.int x7), some (.int v1), some (.int v2)]) dX11_summedUp_127 rfl rfl rfl ?_
        refine ev_iinc (v := x6 + (-1)) (ls2 := [some (.ref 0), none, none, some (.int x3), some (.int x4), some (.int (x5 + (-1))), some (.int (x6 + (-1))), some (.int x7), some (.int v1), some (.int v2)]) dX11_summedUp_130 rfl rfl rfl ?_
        refine ev_aload_n dX11_summedUp_133 rfl ?_
        refine ev_getA dX11_summedUp_134 fl_WithoutEModel_42 lm_0 rfl ?_
        refine ev_iload dX11_summedUp_137 rfl ?_
        obtain ⟨c, h⟩ := h
        refine ev_zald dX11_summedUp_139 lm_9 c ?_
        refine ev_if_ne (tgt := 368) dX11_summedUp_140 (by decide) (fun c => ?_) (fun c => ?_)
        · replace h := h.1 c
          refine ev_iinc (v := x7 + 1) (ls2 := [some (.ref 0), none, none, some (.int x3), some (.int x4), some (.int (x5 + (-1))), some (.int (x6 + (-1))), some (.int (x7 + 1)), some (.int v1), some (.int v2)]) dX11_summedUp_368 rfl rfl rfl ?_
          refine ev_goto (tgt := 40) dX11_summedUp_371 (by decide) ?_
          refine Ev.weak (ls := [some (.ref 0), none, none, some (.int x3), some (.int x4), some (.int (x5 + (-1))), some (.int (x6 + (-1))), some (.int (x7 + 1)), none, none]) ⟨rfl, rfl, rfl, rfl, rfl, rfl, trivial⟩ ?_
          exact h
        · replace h := h.2 c
          refine ev_aload_n dX11_summedUp_143 rfl ?_
          refine ev_getA dX11_summedUp_144 fl_WithoutEModel_38 lm_0 rfl ?_
          refine ev_iload dX11_summedUp_147 rfl ?_
          refine ev_iconst (v := 1) dX11_summedUp_149 (by decide) ?_
          refine ev_isub dX11_summedUp_150 ?_
          refine ev_aload_n dX11_summedUp_151 rfl ?_
          refine ev_getA dX11_summedUp_152 fl_WithoutEModel_38 lm_0 rfl ?_
          refine ev_iload dX11_summedUp_155 rfl ?_
          obtain ⟨c, h⟩ := h
          refine ev_lald dX11_summedUp_157 lm_8 c ?_
          obtain ⟨c, h⟩ := h
          refine ev_last dX11_summedUp_158 lm_8 c ?_
          generalize eM8 : ev_wl M 8 ((x5 + (-1)) - 1).toNatClampNeg (M.2 8 (x5 + (-1)).toNatClampNeg) = M8
          replace h := h M8 eM8.symm
          refine ev_goto (tgt := 368) dX11_summedUp_159 (by decide) ?_
          refine ev_iinc (v := x7 + 1) (ls2 := [some (.ref 0), none, none, some (.int x3), some (.int x4), some (.int (x5 + (-1))), some (.int (x6 + (-1))), some (.int (x7 + 1)), some (.int v1), some (.int v2)]) dX11_summedUp_368 rfl rfl rfl ?_
          refine ev_goto (tgt := 40) dX11_summedUp_371 (by decide) ?_
          refine Ev.weak (ls := [some (.ref 0), none, none, some (.int x3), some (.int x4), some (.int (x5 + (-1))), some (.int (x6 + (-1))), some (.int (x7 + 1)), none, none]) ⟨rfl, rfl, rfl, rfl, rfl, rfl, trivial⟩ ?_
          exact h
    · replace h := h.2 c
      refine ev_aload_n dX11_summedUp_89 rfl ?_
      refine ev_getA dX11_summedUp_90 fl_WithoutEModel_38 lm_0 rfl ?_
      refine ev_iload dX11_summedUp_93 rfl ?_
      refine ev_iload dX11_summedUp_95 rfl ?_
      refine ev_if_ne (tgt := 106) dX11_summedUp_97 (by decide) (fun c => ?_) (fun c => ?_)
      · replace h := h.1 c
        refine ev_aload_n dX11_summedUp_106 rfl ?_
        refine ev_getA dX11_summedUp_107 fl_WithoutEModel_35 lm_0 rfl ?_
        refine ev_iload dX11_summedUp_110 rfl ?_
        obtain ⟨c, h⟩ := h
        refine ev_iald dX11_summedUp_112 lm_7 c ?_
        refine ev_i2l dX11_summedUp_113 ?_
        obtain ⟨c, h⟩ := h
        refine ev_last dX11_summedUp_114 lm_8 c ?_
        generalize eM9 : ev_wl M 8 x5.toNatClampNeg ((M.1 7 v2.toNatClampNeg : Int32).toInt64) = M9
        replace h := h M9 eM9.symm
        refine ev_iinc (v := x5 + 1) (ls2 := [some (.ref 0), none, none, some (.int x3), some (.int x4), some (.int (x5 + 1)), some (.int x6), some (.int x7), some (.int v1), some (.int v2)]) dX11_summedUp_115 rfl rfl rfl ?_
        refine ev_goto (tgt := 368) dX11_summedUp_118 (by decide) ?_
        refine ev_iinc (v := x7 + 1) (ls2 := [some (.ref 0), none, none, some (.int x3), some (.int x4), some (.int (x5 + 1)), some (.int x6), some (.int (x7 + 1)), some (.int v1), some (.int v2)]) dX11_summedUp_368 rfl rfl rfl ?_
        refine ev_goto (tgt := 40) dX11_summedUp_371 (by decide) ?_
        refine Ev.weak (ls := [some (.ref 0), none, none, some (.int x3), some (.int x4), some (.int (x5 + 1)), some (.int x6), some (.int (x7 + 1)), none, none]) ⟨rfl, rfl, rfl, rfl, rfl, rfl, trivial⟩ ?_
        exact h
      · replace h := h.2 c
        refine ev_iload dX11_summedUp_100 rfl ?_
        refine ev_i2l dX11_summedUp_102 ?_
        refine ev_goto (tgt := 114) dX11_summedUp_103 (by decide) ?_
        obtain ⟨c, h⟩ := h
        refine ev_last dX11_summedUp_114 lm_8 c ?_
        generalize eM10 : ev_wl M 8 x5.toNatClampNeg ((v2 : Int32).toInt64) = M10
        replace h := h M10 eM10.symm
        refine ev_iinc (v := x5 + 1) (ls2 := [some (.ref 0), none, none, some (.int x3), some (.int x4), some (.int (x5 + 1)), some (.int x6), some (.int x7), some (.int v1), some (.int v2)]) dX11_summedUp_115 rfl rfl rfl ?_
        refine ev_goto (tgt := 368) dX11_summedUp_118 (by decide) ?_
        refine ev_iinc (v := x7 + 1) (ls2 := [some (.ref 0), none, none, some (.int x3), some (.int x4), some (.int (x5 + 1)), some (.int x6), some (.int (x7 + 1)), some (.int v1), some (.int v2)]) dX11_summedUp_368 rfl rfl rfl ?_
        refine ev_goto (tgt := 40) dX11_summedUp_371 (by decide) ?_
        refine Ev.weak (ls := [some (.ref 0), none, none, some (.int x3), some (.int x4), some (.int (x5 + 1)), some (.int x6), some (.int (x7 + 1)), none, none]) ⟨rfl, rfl, rfl, rfl, rfl, rfl, trivial⟩ ?_
        exact h
