theorem dX5_behind_0 : decode cX5_behind 0 = .ok (.iload_n 3, 1) := by decide +kernel
theorem dX5_behind_1 : decode cX5_behind 1 = .ok (.bipush 64, 2) := by decide +kernel
theorem dX5_behind_3 : decode cX5_behind 3 = .ok (.irem, 1) := by decide +kernel
theorem dX5_behind_4 : decode cX5_behind 4 = .ok (.istore 4, 2) := by decide +kernel
theorem dX5_behind_6 : decode cX5_behind 6 = .ok (.iload_n 3, 1) := by decide +kernel
theorem dX5_behind_7 : decode cX5_behind 7 = .ok (.bipush 64, 2) := by decide +kernel
theorem dX5_behind_9 : decode cX5_behind 9 = .ok (.idiv, 1) := by decide +kernel
theorem dX5_behind_10 : decode cX5_behind 10 = .ok (.bipush 64, 2) := by decide +kernel
theorem dX5_behind_12 : decode cX5_behind 12 = .ok (.irem, 1) := by decide +kernel
theorem dX5_behind_13 : decode cX5_behind 13 = .ok (.istore 5, 2) := by decide +kernel
theorem dX5_behind_15 : decode cX5_behind 15 = .ok (.iload_n 3, 1) := by decide +kernel
theorem dX5_behind_16 : decode cX5_behind 16 = .ok (.sipush 4096, 3) := by decide +kernel
theorem dX5_behind_19 : decode cX5_behind 19 = .ok (.idiv, 1) := by decide +kernel
theorem dX5_behind_20 : decode cX5_behind 20 = .ok (.istore 6, 2) := by decide +kernel
theorem dX5_behind_22 : decode cX5_behind 22 = .ok (.aload_n 0, 1) := by decide +kernel
theorem dX5_behind_23 : decode cX5_behind 23 = .ok (.getfield 7, 3) := by decide +kernel
theorem dX5_behind_26 : decode cX5_behind 26 = .ok (.iload_n 1, 1) := by decide +kernel
theorem dX5_behind_27 : decode cX5_behind 27 = .ok (.bipush 64, 2) := by decide +kernel
theorem dX5_behind_29 : decode cX5_behind 29 = .ok (.iadd, 1) := by decide +kernel
theorem dX5_behind_30 : decode cX5_behind 30 = .ok (.iaload, 1) := by decide +kernel
theorem dX5_behind_31 : decode cX5_behind 31 = .ok (.istore 7, 2) := by decide +kernel
theorem dX5_behind_33 : decode cX5_behind 33 = .ok (.aload_n 0, 1) := by decide +kernel
theorem dX5_behind_34 : decode cX5_behind 34 = .ok (.getfield 7, 3) := by decide +kernel
theorem dX5_behind_37 : decode cX5_behind 37 = .ok (.iload_n 1, 1) := by decide +kernel
theorem dX5_behind_38 : decode cX5_behind 38 = .ok (.iload 4, 2) := by decide +kernel
theorem dX5_behind_40 : decode cX5_behind 40 = .ok (.iadd, 1) := by decide +kernel
theorem dX5_behind_41 : decode cX5_behind 41 = .ok (.iaload, 1) := by decide +kernel
theorem dX5_behind_42 : decode cX5_behind 42 = .ok (.istore 8, 2) := by decide +kernel
theorem dX5_behind_44 : decode cX5_behind 44 = .ok (.iload 8, 2) := by decide +kernel
theorem dX5_behind_46 : decode cX5_behind 46 = .ok (.invokestatic 40, 3) := by decide +kernel
theorem dX5_behind_49 : decode cX5_behind 49 = .ok (.bipush 6, 2) := by decide +kernel
theorem dX5_behind_51 : decode cX5_behind 51 = .ok (.if_icmp .ne 24, 3) := by decide +kernel
theorem dX5_behind_54 : decode cX5_behind 54 = .ok (.iload 4, 2) := by decide +kernel
theorem dX5_behind_56 : decode cX5_behind 56 = .ok (.bipush 8, 2) := by decide +kernel
theorem dX5_behind_58 : decode cX5_behind 58 = .ok (.irem, 1) := by decide +kernel
theorem dX5_behind_59 : decode cX5_behind 59 = .ok (.iload 5, 2) := by decide +kernel
theorem dX5_behind_61 : decode cX5_behind 61 = .ok (.bipush 8, 2) := by decide +kernel
theorem dX5_behind_63 : decode cX5_behind 63 = .ok (.irem, 1) := by decide +kernel
theorem dX5_behind_64 : decode cX5_behind 64 = .ok (.invokestatic 43, 3) := by decide +kernel
theorem dX5_behind_67 : decode cX5_behind 67 = .ok (.iconst 2, 1) := by decide +kernel
theorem dX5_behind_68 : decode cX5_behind 68 = .ok (.if_icmp .ne 7, 3) := by decide +kernel
theorem dX5_behind_71 : decode cX5_behind 71 = .ok (.iconst 1, 1) := by decide +kernel
theorem dX5_behind_72 : decode cX5_behind 72 = .ok (.goto 4, 3) := by decide +kernel
theorem dX5_behind_75 : decode cX5_behind 75 = .ok (.iconst 0, 1) := by decide +kernel
theorem dX5_behind_76 : decode cX5_behind 76 = .ok (.istore 9, 2) := by decide +kernel
theorem dX5_behind_78 : decode cX5_behind 78 = .ok (.iload 8, 2) := by decide +kernel
theorem dX5_behind_80 : decode cX5_behind 80 = .ok (.invokestatic 40, 3) := by decide +kernel
theorem dX5_behind_83 : decode cX5_behind 83 = .ok (.iconst 1, 1) := by decide +kernel
theorem dX5_behind_84 : decode cX5_behind 84 = .ok (.if_icmp .ne 19, 3) := by decide +kernel
theorem dX5_behind_87 : decode cX5_behind 87 = .ok (.aload_n 0, 1) := by decide +kernel
theorem dX5_behind_88 : decode cX5_behind 88 = .ok (.iload_n 1, 1) := by decide +kernel
theorem dX5_behind_89 : decode cX5_behind 89 = .ok (.iload 4, 2) := by decide +kernel
theorem dX5_behind_91 : decode cX5_behind 91 = .ok (.iload 5, 2) := by decide +kernel
theorem dX5_behind_93 : decode cX5_behind 93 = .ok (.invokevirtual 71, 3) := by decide +kernel
theorem dX5_behind_96 : decode cX5_behind 96 = .ok (.ifCond .eq 7, 3) := by decide +kernel
theorem dX5_behind_99 : decode cX5_behind 99 = .ok (.iconst 1, 1) := by decide +kernel
theorem dX5_behind_100 : decode cX5_behind 100 = .ok (.goto 4, 3) := by decide +kernel
theorem dX5_behind_103 : decode cX5_behind 103 = .ok (.iconst 0, 1) := by decide +kernel
theorem dX5_behind_104 : decode cX5_behind 104 = .ok (.istore 10, 2) := by decide +kernel
theorem dX5_behind_106 : decode cX5_behind 106 = .ok (.iconst 0, 1) := by decide +kernel
theorem dX5_behind_107 : decode cX5_behind 107 = .ok (.istore 11, 2) := by decide +kernel
theorem dX5_behind_109 : decode cX5_behind 109 = .ok (.iload 11, 2) := by decide +kernel
theorem dX5_behind_111 : decode cX5_behind 111 = .ok (.bipush 67, 2) := by decide +kernel
theorem dX5_behind_113 : decode cX5_behind 113 = .ok (.if_icmp .ge 27, 3) := by decide +kernel
theorem dX5_behind_116 : decode cX5_behind 116 = .ok (.aload_n 0, 1) := by decide +kernel
theorem dX5_behind_117 : decode cX5_behind 117 = .ok (.getfield 7, 3) := by decide +kernel
theorem dX5_behind_120 : decode cX5_behind 120 = .ok (.iload_n 2, 1) := by decide +kernel
theorem dX5_behind_121 : decode cX5_behind 121 = .ok (.iload 11, 2) := by decide +kernel
theorem dX5_behind_123 : decode cX5_behind 123 = .ok (.iadd, 1) := by decide +kernel
theorem dX5_behind_124 : decode cX5_behind 124 = .ok (.aload_n 0, 1) := by decide +kernel
theorem dX5_behind_125 : decode cX5_behind 125 = .ok (.getfield 7, 3) := by decide +kernel
theorem dX5_behind_128 : decode cX5_behind 128 = .ok (.iload_n 1, 1) := by decide +kernel
theorem dX5_behind_129 : decode cX5_behind 129 = .ok (.iload 11, 2) := by decide +kernel
theorem dX5_behind_131 : decode cX5_behind 131 = .ok (.iadd, 1) := by decide +kernel
theorem dX5_behind_132 : decode cX5_behind 132 = .ok (.iaload, 1) := by decide +kernel
theorem dX5_behind_133 : decode cX5_behind 133 = .ok (.iastore, 1) := by decide +kernel
theorem dX5_behind_134 : decode cX5_behind 134 = .ok (.iinc 11 1, 3) := by decide +kernel
theorem dX5_behind_137 : decode cX5_behind 137 = .ok (.goto (-28), 3) := by decide +kernel
theorem dX5_behind_140 : decode cX5_behind 140 = .ok (.iload 7, 2) := by decide +kernel
theorem dX5_behind_142 : decode cX5_behind 142 = .ok (.ifCond .ne 11, 3) := by decide +kernel
theorem dX5_behind_145 : decode cX5_behind 145 = .ok (.iload 5, 2) := by decide +kernel
theorem dX5_behind_147 : decode cX5_behind 147 = .ok (.bipush 8, 2) := by decide +kernel
theorem dX5_behind_149 : decode cX5_behind 149 = .ok (.isub, 1) := by decide +kernel
theorem dX5_behind_150 : decode cX5_behind 150 = .ok (.goto 8, 3) := by decide +kernel
theorem dX5_behind_153 : decode cX5_behind 153 = .ok (.iload 5, 2) := by decide +kernel
theorem dX5_behind_155 : decode cX5_behind 155 = .ok (.bipush 8, 2) := by decide +kernel
theorem dX5_behind_157 : decode cX5_behind 157 = .ok (.iadd, 1) := by decide +kernel
theorem dX5_behind_158 : decode cX5_behind 158 = .ok (.istore 11, 2) := by decide +kernel
theorem dX5_behind_160 : decode cX5_behind 160 = .ok (.iload 10, 2) := by decide +kernel
theorem dX5_behind_162 : decode cX5_behind 162 = .ok (.ifCond .eq 13, 3) := by decide +kernel
theorem dX5_behind_165 : decode cX5_behind 165 = .ok (.aload_n 0, 1) := by decide +kernel
theorem dX5_behind_166 : decode cX5_behind 166 = .ok (.getfield 7, 3) := by decide +kernel
theorem dX5_behind_169 : decode cX5_behind 169 = .ok (.iload_n 2, 1) := by decide +kernel
theorem dX5_behind_170 : decode cX5_behind 170 = .ok (.iload 11, 2) := by decide +kernel
theorem dX5_behind_172 : decode cX5_behind 172 = .ok (.iadd, 1) := by decide +kernel
theorem dX5_behind_173 : decode cX5_behind 173 = .ok (.iconst 0, 1) := by decide +kernel
theorem dX5_behind_174 : decode cX5_behind 174 = .ok (.iastore, 1) := by decide +kernel
theorem dX5_behind_175 : decode cX5_behind 175 = .ok (.aload_n 0, 1) := by decide +kernel
theorem dX5_behind_176 : decode cX5_behind 176 = .ok (.getfield 7, 3) := by decide +kernel
theorem dX5_behind_179 : decode cX5_behind 179 = .ok (.iload_n 2, 1) := by decide +kernel
theorem dX5_behind_180 : decode cX5_behind 180 = .ok (.iload 4, 2) := by decide +kernel
theorem dX5_behind_182 : decode cX5_behind 182 = .ok (.iadd, 1) := by decide +kernel
theorem dX5_behind_183 : decode cX5_behind 183 = .ok (.iconst 0, 1) := by decide +kernel
theorem dX5_behind_184 : decode cX5_behind 184 = .ok (.iastore, 1) := by decide +kernel
theorem dX5_behind_185 : decode cX5_behind 185 = .ok (.aload_n 0, 1) := by decide +kernel
theorem dX5_behind_186 : decode cX5_behind 186 = .ok (.getfield 7, 3) := by decide +kernel
theorem dX5_behind_189 : decode cX5_behind 189 = .ok (.iload_n 2, 1) := by decide +kernel
theorem dX5_behind_190 : decode cX5_behind 190 = .ok (.iload 5, 2) := by decide +kernel
theorem dX5_behind_192 : decode cX5_behind 192 = .ok (.iadd, 1) := by decide +kernel
theorem dX5_behind_193 : decode cX5_behind 193 = .ok (.iload 6, 2) := by decide +kernel
theorem dX5_behind_195 : decode cX5_behind 195 = .ok (.ifCond .le 14, 3) := by decide +kernel
theorem dX5_behind_198 : decode cX5_behind 198 = .ok (.iload 6, 2) := by decide +kernel
theorem dX5_behind_200 : decode cX5_behind 200 = .ok (.bipush 6, 2) := by decide +kernel
theorem dX5_behind_202 : decode cX5_behind 202 = .ok (.iload 7, 2) := by decide +kernel
theorem dX5_behind_204 : decode cX5_behind 204 = .ok (.imul, 1) := by decide +kernel
theorem dX5_behind_205 : decode cX5_behind 205 = .ok (.iadd, 1) := by decide +kernel
theorem dX5_behind_206 : decode cX5_behind 206 = .ok (.goto 5, 3) := by decide +kernel
theorem dX5_behind_209 : decode cX5_behind 209 = .ok (.iload 8, 2) := by decide +kernel
theorem dX5_behind_211 : decode cX5_behind 211 = .ok (.iastore, 1) := by decide +kernel
theorem dX5_behind_212 : decode cX5_behind 212 = .ok (.iload 9, 2) := by decide +kernel
theorem dX5_behind_214 : decode cX5_behind 214 = .ok (.ifCond .eq 54, 3) := by decide +kernel
theorem dX5_behind_217 : decode cX5_behind 217 = .ok (.iload 5, 2) := by decide +kernel
theorem dX5_behind_219 : decode cX5_behind 219 = .ok (.iload 4, 2) := by decide +kernel
theorem dX5_behind_221 : decode cX5_behind 221 = .ok (.if_icmp .le 10, 3) := by decide +kernel
theorem dX5_behind_224 : decode cX5_behind 224 = .ok (.iload 4, 2) := by decide +kernel
theorem dX5_behind_226 : decode cX5_behind 226 = .ok (.iconst 3, 1) := by decide +kernel
theorem dX5_behind_227 : decode cX5_behind 227 = .ok (.iadd, 1) := by decide +kernel
theorem dX5_behind_228 : decode cX5_behind 228 = .ok (.goto 7, 3) := by decide +kernel
theorem dX5_behind_231 : decode cX5_behind 231 = .ok (.iload 4, 2) := by decide +kernel
theorem dX5_behind_233 : decode cX5_behind 233 = .ok (.iconst 4, 1) := by decide +kernel
theorem dX5_behind_234 : decode cX5_behind 234 = .ok (.isub, 1) := by decide +kernel
theorem dX5_behind_235 : decode cX5_behind 235 = .ok (.istore 12, 2) := by decide +kernel
theorem dX5_behind_237 : decode cX5_behind 237 = .ok (.aload_n 0, 1) := by decide +kernel
theorem dX5_behind_238 : decode cX5_behind 238 = .ok (.getfield 7, 3) := by decide +kernel
theorem dX5_behind_241 : decode cX5_behind 241 = .ok (.iload_n 2, 1) := by decide +kernel
theorem dX5_behind_242 : decode cX5_behind 242 = .ok (.iload 12, 2) := by decide +kernel
theorem dX5_behind_244 : decode cX5_behind 244 = .ok (.iadd, 1) := by decide +kernel
theorem dX5_behind_245 : decode cX5_behind 245 = .ok (.iconst 0, 1) := by decide +kernel
theorem dX5_behind_246 : decode cX5_behind 246 = .ok (.iastore, 1) := by decide +kernel
theorem dX5_behind_247 : decode cX5_behind 247 = .ok (.aload_n 0, 1) := by decide +kernel
theorem dX5_behind_248 : decode cX5_behind 248 = .ok (.getfield 7, 3) := by decide +kernel
theorem dX5_behind_251 : decode cX5_behind 251 = .ok (.iload_n 2, 1) := by decide +kernel
theorem dX5_behind_252 : decode cX5_behind 252 = .ok (.iload 4, 2) := by decide +kernel
theorem dX5_behind_254 : decode cX5_behind 254 = .ok (.iload 5, 2) := by decide +kernel
theorem dX5_behind_256 : decode cX5_behind 256 = .ok (.iadd, 1) := by decide +kernel
theorem dX5_behind_257 : decode cX5_behind 257 = .ok (.iconst 2, 1) := by decide +kernel
theorem dX5_behind_258 : decode cX5_behind 258 = .ok (.idiv, 1) := by decide +kernel
theorem dX5_behind_259 : decode cX5_behind 259 = .ok (.iadd, 1) := by decide +kernel
theorem dX5_behind_260 : decode cX5_behind 260 = .ok (.iconst 4, 1) := by decide +kernel
theorem dX5_behind_261 : decode cX5_behind 261 = .ok (.bipush 6, 2) := by decide +kernel
theorem dX5_behind_263 : decode cX5_behind 263 = .ok (.iload 7, 2) := by decide +kernel
theorem dX5_behind_265 : decode cX5_behind 265 = .ok (.imul, 1) := by decide +kernel
theorem dX5_behind_266 : decode cX5_behind 266 = .ok (.iadd, 1) := by decide +kernel
theorem dX5_behind_267 : decode cX5_behind 267 = .ok (.iastore, 1) := by decide +kernel
theorem dX5_behind_268 : decode cX5_behind 268 = .ok (.iload 8, 2) := by decide +kernel
theorem dX5_behind_270 : decode cX5_behind 270 = .ok (.invokestatic 40, 3) := by decide +kernel
theorem dX5_behind_273 : decode cX5_behind 273 = .ok (.bipush 6, 2) := by decide +kernel
theorem dX5_behind_275 : decode cX5_behind 275 = .ok (.if_icmp .ne 24, 3) := by decide +kernel
theorem dX5_behind_278 : decode cX5_behind 278 = .ok (.aload_n 0, 1) := by decide +kernel
theorem dX5_behind_279 : decode cX5_behind 279 = .ok (.getfield 7, 3) := by decide +kernel
theorem dX5_behind_282 : decode cX5_behind 282 = .ok (.iload_n 1, 1) := by decide +kernel
theorem dX5_behind_283 : decode cX5_behind 283 = .ok (.bipush 65, 2) := by decide +kernel
theorem dX5_behind_285 : decode cX5_behind 285 = .ok (.iadd, 1) := by decide +kernel
theorem dX5_behind_286 : decode cX5_behind 286 = .ok (.iaload, 1) := by decide +kernel
theorem dX5_behind_287 : decode cX5_behind 287 = .ok (.iconst 3, 1) := by decide +kernel
theorem dX5_behind_288 : decode cX5_behind 288 = .ok (.iconst 2, 1) := by decide +kernel
theorem dX5_behind_289 : decode cX5_behind 289 = .ok (.iload 7, 2) := by decide +kernel
theorem dX5_behind_291 : decode cX5_behind 291 = .ok (.imul, 1) := by decide +kernel
theorem dX5_behind_292 : decode cX5_behind 292 = .ok (.ishl, 1) := by decide +kernel
theorem dX5_behind_293 : decode cX5_behind 293 = .ok (.iconst (-1), 1) := by decide +kernel
theorem dX5_behind_294 : decode cX5_behind 294 = .ok (.ixor, 1) := by decide +kernel
theorem dX5_behind_295 : decode cX5_behind 295 = .ok (.iand, 1) := by decide +kernel
theorem dX5_behind_296 : decode cX5_behind 296 = .ok (.goto 12, 3) := by decide +kernel
theorem dX5_behind_299 : decode cX5_behind 299 = .ok (.aload_n 0, 1) := by decide +kernel
theorem dX5_behind_300 : decode cX5_behind 300 = .ok (.getfield 7, 3) := by decide +kernel
theorem dX5_behind_303 : decode cX5_behind 303 = .ok (.iload_n 1, 1) := by decide +kernel
theorem dX5_behind_304 : decode cX5_behind 304 = .ok (.bipush 65, 2) := by decide +kernel
theorem dX5_behind_306 : decode cX5_behind 306 = .ok (.iadd, 1) := by decide +kernel
theorem dX5_behind_307 : decode cX5_behind 307 = .ok (.iaload, 1) := by decide +kernel
theorem dX5_behind_308 : decode cX5_behind 308 = .ok (.istore 12, 2) := by decide +kernel
theorem dX5_behind_310 : decode cX5_behind 310 = .ok (.aload_n 0, 1) := by decide +kernel
theorem dX5_behind_311 : decode cX5_behind 311 = .ok (.getfield 7, 3) := by decide +kernel
theorem dX5_behind_314 : decode cX5_behind 314 = .ok (.iload_n 2, 1) := by decide +kernel
theorem dX5_behind_315 : decode cX5_behind 315 = .ok (.bipush 65, 2) := by decide +kernel
theorem dX5_behind_317 : decode cX5_behind 317 = .ok (.iadd, 1) := by decide +kernel
theorem dX5_behind_318 : decode cX5_behind 318 = .ok (.iload 12, 2) := by decide +kernel
theorem dX5_behind_320 : decode cX5_behind 320 = .ok (.iload 4, 2) := by decide +kernel
theorem dX5_behind_322 : decode cX5_behind 322 = .ok (.invokestatic 80, 3) := by decide +kernel
theorem dX5_behind_325 : decode cX5_behind 325 = .ok (.iconst (-1), 1) := by decide +kernel
theorem dX5_behind_326 : decode cX5_behind 326 = .ok (.ixor, 1) := by decide +kernel
theorem dX5_behind_327 : decode cX5_behind 327 = .ok (.iand, 1) := by decide +kernel
theorem dX5_behind_328 : decode cX5_behind 328 = .ok (.iload 5, 2) := by decide +kernel
theorem dX5_behind_330 : decode cX5_behind 330 = .ok (.invokestatic 80, 3) := by decide +kernel
theorem dX5_behind_333 : decode cX5_behind 333 = .ok (.iconst (-1), 1) := by decide +kernel
theorem dX5_behind_334 : decode cX5_behind 334 = .ok (.ixor, 1) := by decide +kernel
theorem dX5_behind_335 : decode cX5_behind 335 = .ok (.iand, 1) := by decide +kernel
theorem dX5_behind_336 : decode cX5_behind 336 = .ok (.iastore, 1) := by decide +kernel
theorem dX5_behind_337 : decode cX5_behind 337 = .ok (.aload_n 0, 1) := by decide +kernel
theorem dX5_behind_338 : decode cX5_behind 338 = .ok (.getfield 7, 3) := by decide +kernel
theorem dX5_behind_341 : decode cX5_behind 341 = .ok (.iload_n 2, 1) := by decide +kernel
theorem dX5_behind_342 : decode cX5_behind 342 = .ok (.bipush 66, 2) := by decide +kernel
theorem dX5_behind_344 : decode cX5_behind 344 = .ok (.iadd, 1) := by decide +kernel
theorem dX5_behind_345 : decode cX5_behind 345 = .ok (.iconst (-1), 1) := by decide +kernel
theorem dX5_behind_346 : decode cX5_behind 346 = .ok (.iastore, 1) := by decide +kernel
theorem dX5_behind_347 : decode cX5_behind 347 = .ok (.iload 8, 2) := by decide +kernel
theorem dX5_behind_349 : decode cX5_behind 349 = .ok (.invokestatic 40, 3) := by decide +kernel
theorem dX5_behind_352 : decode cX5_behind 352 = .ok (.iconst 1, 1) := by decide +kernel
theorem dX5_behind_353 : decode cX5_behind 353 = .ok (.if_icmp .ne 112, 3) := by decide +kernel
theorem dX5_behind_356 : decode cX5_behind 356 = .ok (.iload 4, 2) := by decide +kernel
theorem dX5_behind_358 : decode cX5_behind 358 = .ok (.bipush 8, 2) := by decide +kernel
theorem dX5_behind_360 : decode cX5_behind 360 = .ok (.idiv, 1) := by decide +kernel
theorem dX5_behind_361 : decode cX5_behind 361 = .ok (.iload 5, 2) := by decide +kernel
theorem dX5_behind_363 : decode cX5_behind 363 = .ok (.bipush 8, 2) := by decide +kernel
theorem dX5_behind_365 : decode cX5_behind 365 = .ok (.idiv, 1) := by decide +kernel
theorem dX5_behind_366 : decode cX5_behind 366 = .ok (.invokestatic 43, 3) := by decide +kernel
theorem dX5_behind_369 : decode cX5_behind 369 = .ok (.iconst 2, 1) := by decide +kernel
theorem dX5_behind_370 : decode cX5_behind 370 = .ok (.if_icmp .ne 95, 3) := by decide +kernel
theorem dX5_behind_373 : decode cX5_behind 373 = .ok (.iload 4, 2) := by decide +kernel
theorem dX5_behind_375 : decode cX5_behind 375 = .ok (.iload 5, 2) := by decide +kernel
theorem dX5_behind_377 : decode cX5_behind 377 = .ok (.iadd, 1) := by decide +kernel
theorem dX5_behind_378 : decode cX5_behind 378 = .ok (.iconst 2, 1) := by decide +kernel
theorem dX5_behind_379 : decode cX5_behind 379 = .ok (.idiv, 1) := by decide +kernel
theorem dX5_behind_380 : decode cX5_behind 380 = .ok (.istore 13, 2) := by decide +kernel
theorem dX5_behind_382 : decode cX5_behind 382 = .ok (.iconst 0, 1) := by decide +kernel
theorem dX5_behind_383 : decode cX5_behind 383 = .ok (.istore 14, 2) := by decide +kernel
theorem dX5_behind_385 : decode cX5_behind 385 = .ok (.iload 14, 2) := by decide +kernel
theorem dX5_behind_387 : decode cX5_behind 387 = .ok (.bipush 64, 2) := by decide +kernel
theorem dX5_behind_389 : decode cX5_behind 389 = .ok (.if_icmp .ge 76, 3) := by decide +kernel
theorem dX5_behind_392 : decode cX5_behind 392 = .ok (.aload_n 0, 1) := by decide +kernel
theorem dX5_behind_393 : decode cX5_behind 393 = .ok (.getfield 7, 3) := by decide +kernel
theorem dX5_behind_396 : decode cX5_behind 396 = .ok (.iload_n 2, 1) := by decide +kernel
theorem dX5_behind_397 : decode cX5_behind 397 = .ok (.iload 14, 2) := by decide +kernel
theorem dX5_behind_399 : decode cX5_behind 399 = .ok (.iadd, 1) := by decide +kernel
theorem dX5_behind_400 : decode cX5_behind 400 = .ok (.iaload, 1) := by decide +kernel
theorem dX5_behind_401 : decode cX5_behind 401 = .ok (.bipush 7, 2) := by decide +kernel
theorem dX5_behind_403 : decode cX5_behind 403 = .ok (.bipush 6, 2) := by decide +kernel
theorem dX5_behind_405 : decode cX5_behind 405 = .ok (.iload 7, 2) := by decide +kernel
theorem dX5_behind_407 : decode cX5_behind 407 = .ok (.imul, 1) := by decide +kernel
theorem dX5_behind_408 : decode cX5_behind 408 = .ok (.isub, 1) := by decide +kernel
theorem dX5_behind_409 : decode cX5_behind 409 = .ok (.if_icmp .ne 19, 3) := by decide +kernel
theorem dX5_behind_412 : decode cX5_behind 412 = .ok (.aload_n 0, 1) := by decide +kernel
theorem dX5_behind_413 : decode cX5_behind 413 = .ok (.iload_n 2, 1) := by decide +kernel
theorem dX5_behind_414 : decode cX5_behind 414 = .ok (.iload 14, 2) := by decide +kernel
theorem dX5_behind_416 : decode cX5_behind 416 = .ok (.iload 13, 2) := by decide +kernel
theorem dX5_behind_418 : decode cX5_behind 418 = .ok (.invokevirtual 54, 3) := by decide +kernel
theorem dX5_behind_421 : decode cX5_behind 421 = .ok (.ifCond .eq 7, 3) := by decide +kernel
theorem dX5_behind_424 : decode cX5_behind 424 = .ok (.iconst 1, 1) := by decide +kernel
theorem dX5_behind_425 : decode cX5_behind 425 = .ok (.goto 4, 3) := by decide +kernel
theorem dX5_behind_428 : decode cX5_behind 428 = .ok (.iconst 0, 1) := by decide +kernel
theorem dX5_behind_429 : decode cX5_behind 429 = .ok (.istore 15, 2) := by decide +kernel
theorem dX5_behind_431 : decode cX5_behind 431 = .ok (.aload_n 0, 1) := by decide +kernel
theorem dX5_behind_432 : decode cX5_behind 432 = .ok (.getfield 7, 3) := by decide +kernel
theorem dX5_behind_435 : decode cX5_behind 435 = .ok (.iload_n 2, 1) := by decide +kernel
theorem dX5_behind_436 : decode cX5_behind 436 = .ok (.bipush 66, 2) := by decide +kernel
theorem dX5_behind_438 : decode cX5_behind 438 = .ok (.iadd, 1) := by decide +kernel
theorem dX5_behind_439 : decode cX5_behind 439 = .ok (.iload 15, 2) := by decide +kernel
theorem dX5_behind_441 : decode cX5_behind 441 = .ok (.ifCond .eq 8, 3) := by decide +kernel
theorem dX5_behind_444 : decode cX5_behind 444 = .ok (.iload 13, 2) := by decide +kernel
theorem dX5_behind_446 : decode cX5_behind 446 = .ok (.goto 12, 3) := by decide +kernel
theorem dX5_behind_449 : decode cX5_behind 449 = .ok (.aload_n 0, 1) := by decide +kernel
theorem dX5_behind_450 : decode cX5_behind 450 = .ok (.getfield 7, 3) := by decide +kernel
theorem dX5_behind_453 : decode cX5_behind 453 = .ok (.iload_n 2, 1) := by decide +kernel
theorem dX5_behind_454 : decode cX5_behind 454 = .ok (.bipush 66, 2) := by decide +kernel
theorem dX5_behind_456 : decode cX5_behind 456 = .ok (.iadd, 1) := by decide +kernel
theorem dX5_behind_457 : decode cX5_behind 457 = .ok (.iaload, 1) := by decide +kernel
theorem dX5_behind_458 : decode cX5_behind 458 = .ok (.iastore, 1) := by decide +kernel
theorem dX5_behind_459 : decode cX5_behind 459 = .ok (.iinc 14 1, 3) := by decide +kernel
theorem dX5_behind_462 : decode cX5_behind 462 = .ok (.goto (-77), 3) := by decide +kernel
theorem dX5_behind_465 : decode cX5_behind 465 = .ok (.aload_n 0, 1) := by decide +kernel
theorem dX5_behind_466 : decode cX5_behind 466 = .ok (.getfield 7, 3) := by decide +kernel
theorem dX5_behind_469 : decode cX5_behind 469 = .ok (.iload_n 2, 1) := by decide +kernel
theorem dX5_behind_470 : decode cX5_behind 470 = .ok (.bipush 64, 2) := by decide +kernel
theorem dX5_behind_472 : decode cX5_behind 472 = .ok (.iadd, 1) := by decide +kernel
theorem dX5_behind_473 : decode cX5_behind 473 = .ok (.iconst 1, 1) := by decide +kernel
theorem dX5_behind_474 : decode cX5_behind 474 = .ok (.iload 7, 2) := by decide +kernel
theorem dX5_behind_476 : decode cX5_behind 476 = .ok (.isub, 1) := by decide +kernel
theorem dX5_behind_477 : decode cX5_behind 477 = .ok (.iastore, 1) := by decide +kernel
theorem dX5_behind_478 : decode cX5_behind 478 = .ok (.return_, 1) := by decide +kernel
theorem hd_X5_behind : yX5_behind.cls ≠ "java/lang/invoke/MethodHandle" ∧ yX5_behind.cls ≠ "java/lang/invoke/VarHandle" ∧ (parseMethodDescriptor yX5_behind.desc).map (fun d => d.parameters.length) = some 3 := by decide +kernel
set_option maxHeartbeats 4000000 in
set_option maxRecDepth 100000 in
/-- behind -/
theorem c_X5_behind (l : Launch) {D : va_G} {cI cJ : ClassId} {A : Nat → Prop} {hm b0 b1 b2 b3 : Nat} {th mk sz : Int32} {F mv kp li : Nat → Int32} (bd : Nat → Nat) (sd rt ps b d f t k : Nat) (hbd : b + 67 ≤ d) (hd9 : d ≤ 300) (hf : f < 64) (ht : t < 64) (hk6 : k < 6) (hgo : gos bd sd rt ps f t = true) (hBd : Bd F b bd sd rt ps) : Met l yX5_behind (Cond.code yX5_behind cX5_behind 16 none :: wsL_law) (rK 3) (va_Pc [.ref hm, .int (nI b), .int (nI d), .int (nI (f + 64 * t + 4096 * k))] (IW D cI cJ A (rW cI hm b0 b1 b2 b3 th mk sz F mv kp li))) (va_Qv (fun u => Bd u d (bhB bd sd ps f t k) (1 - sd) (bhR bd sd rt f t) (bhP bd sd ps f t k) ∧ Ag F u d) (fun (u : Nat → Int32) t => IW D cI cJ A (rW cI hm b0 b1 b2 b3 th mk sz u mv kp li) t) A) 0 0 A := by
  refine entM (by decide) (Nat.le_of_ble_eq_true rfl) ?_
  intro p e s m below meth c ls S0 hr hlocks hG hnm hB hl
  have hx := S0.1
  have hb := S0.2.1
  have hown := S0.2.2.2.1
  have hl : lv_has ls 16 [(0, .ref hm), (1, .int (nI b)), (2, .int (nI d)), (3, .int (nI (f + 64 * t + 4096 * k)))] := hl
  obtain ⟨hP, hD, hK, hA, hE⟩ := hB
  have hS : va_S A s.heap s.heap [] := va_S.rf
  obtain ⟨hBp, hsd, hs2, hrt, hr16, hps, hp65⟩ := id hBd
  obtain ⟨hfv, hfb⟩ := hBp f hf
  have hkf := kd_lt hfb
  have hap1 : ap (f % 8) (t % 8) < 8 := ap_lt (by omega) (by omega)
  have hap2 : ap (f / 8) (t / 8) < 8 := ap_lt (by omega) (by omega)
  refine lv_iload_n hx hb dX5_behind_0 rfl (lv_at hl 3 rfl) ?_
  refine lv_bipush (v := (nI 64)) hx hb dX5_behind_1 (by decide) ?_
  refine ln_irem hx hb dX5_behind_3 (by omega) (by decide) (by decide) ?_
  refine W.top (y := .int (nI f)) (congrArg Value.int (congrArg nI (by omega))) ?_
  refine lv_istore (lv' := [(4, .int (nI f)), (0, .ref hm), (1, .int (nI b)), (2, .int (nI d)), (3, .int (nI (f + 64 * t + 4096 * k)))]) hx hb dX5_behind_4 hl (by decide) rfl (fun ls hl => ?_)
  refine lv_iload_n hx hb dX5_behind_6 rfl (lv_at hl 4 rfl) ?_
  refine lv_bipush (v := (nI 64)) hx hb dX5_behind_7 (by decide) ?_
  refine ln_idiv hx hb dX5_behind_9 (by omega) (by decide) (by decide) ?_
  refine lv_bipush (v := (nI 64)) hx hb dX5_behind_10 (by decide) ?_
  refine ln_irem hx hb dX5_behind_12 (by omega) (by decide) (by decide) ?_
  refine W.top (y := .int (nI t)) (congrArg Value.int (congrArg nI (by omega))) ?_
  refine lv_istore (lv' := [(5, .int (nI t)), (4, .int (nI f)), (0, .ref hm), (1, .int (nI b)), (2, .int (nI d)), (3, .int (nI (f + 64 * t + 4096 * k)))]) hx hb dX5_behind_13 hl (by decide) rfl (fun ls hl => ?_)
  refine lv_iload_n hx hb dX5_behind_15 rfl (lv_at hl 5 rfl) ?_
  refine lv_sipush (v := (nI 4096)) hx hb dX5_behind_16 (by decide) ?_
  refine ln_idiv hx hb dX5_behind_19 (by omega) (by decide) (by decide) ?_
  refine W.top (y := .int (nI k)) (congrArg Value.int (congrArg nI (by omega))) ?_
  refine lv_istore (lv' := [(6, .int (nI k)), (5, .int (nI t)), (4, .int (nI f)), (0, .ref hm), (1, .int (nI b)), (2, .int (nI d)), (3, .int (nI (f + 64 * t + 4096 * k)))]) hx hb dX5_behind_20 hl (by decide) rfl (fun ls hl => ?_)
  refine lv_aload_n hx hb dX5_behind_22 rfl (lv_at hl 3 rfl) ?_
  refine va_get (D := D) (ci := 4) (v := .ref b0) (C := RX5) (T := TX5) (N := 7) hx hb hG wu_X5 hown hK hP 0 rfl rfl 1 (by decide) (hG _ wf_X5_7) (fun _ h9 => h9) rfl dX5_behind_23 ?_
  refine lv_iload_n hx hb dX5_behind_26 rfl (lv_at hl 4 rfl) ?_
  refine lv_bipush (v := (nI 64)) hx hb dX5_behind_27 (by decide) ?_
  refine ln_iadd hx hb dX5_behind_29 ?_
  refine va_iald hx hb hK hP 1 0 rfl rfl (vp_in_nI (by omega) (by decide)) dX5_behind_30 ?_
  refine W.top (y := .int (F (b + 64))) (congrArg (fun z => Value.int (F z)) (nI_clamp (by omega))) ?_
  refine W.top (y := .int (nI sd)) (congrArg Value.int hsd) ?_
  refine lv_istore (lv' := [(7, .int (nI sd)), (6, .int (nI k)), (5, .int (nI t)), (4, .int (nI f)), (0, .ref hm), (1, .int (nI b)), (2, .int (nI d)), (3, .int (nI (f + 64 * t + 4096 * k)))]) hx hb dX5_behind_31 hl (by decide) rfl (fun ls hl => ?_)
  refine lv_aload_n hx hb dX5_behind_33 rfl (lv_at hl 4 rfl) ?_
  refine va_get (D := D) (ci := 4) (v := .ref b0) (C := RX5) (T := TX5) (N := 7) hx hb hG wu_X5 hown hK hP 0 rfl rfl 1 (by decide) (hG _ wf_X5_7) (fun _ h9 => h9) rfl dX5_behind_34 ?_
  refine lv_iload_n hx hb dX5_behind_37 rfl (lv_at hl 5 rfl) ?_
  refine lv_iload hx hb dX5_behind_38 (lv_at hl 3 rfl) ?_
  refine ln_iadd hx hb dX5_behind_40 ?_
  refine va_iald hx hb hK hP 1 0 rfl rfl (vp_in_nI (by omega) (by decide)) dX5_behind_41 ?_
  refine W.top (y := .int (F (b + f))) (congrArg (fun z => Value.int (F z)) (nI_clamp (by omega))) ?_
  refine W.top (y := .int (nI (bd f))) (congrArg Value.int hfv) ?_
  refine lv_istore (lv' := [(8, .int (nI (bd f))), (7, .int (nI sd)), (6, .int (nI k)), (5, .int (nI t)), (4, .int (nI f)), (0, .ref hm), (1, .int (nI b)), (2, .int (nI d)), (3, .int (nI (f + 64 * t + 4096 * k)))]) hx hb dX5_behind_42 hl (by decide) rfl (fun ls hl => ?_)
  refine lv_iload hx hb dX5_behind_44 (lv_at hl 0 rfl) ?_
  refine roI (rnS (As := [.int (nI (bd f))]) (rest := []) S0 (c_X5_kindOf l (bd f) (by omega)) wm_X5_40 wt_X5_kindOf wn_X5 wc_X5_kindOf hd_X5_kindOf ⟨rfl, rfl, by decide, by decide⟩ True.blind (fun _ _ _ => trivial) hl.1 (Nat.le_of_ble_eq_true rfl) dX5_behind_46 rfl ⟨by decide, by decide⟩) (fun r_1 hr_1 => ?_)
  subst hr_1
  refine lv_bipush (v := (nI 6)) hx hb dX5_behind_49 (by decide) ?_
  refine jnG 76 16 [(8, .int (nI (bd f))), (7, .int (nI sd)), (6, .int (nI k)), (5, .int (nI t)), (4, .int (nI f)), (0, .ref hm), (1, .int (nI b)), (2, .int (nI d)), (3, .int (nI (f + 64 * t + 4096 * k)))] [.int (bI (ctl bd f t))] ?_ (fun hj_76 => ?_)
  · intro ls hl
    refine lv_istore (lv' := [(9, .int (bI (ctl bd f t))), (8, .int (nI (bd f))), (7, .int (nI sd)), (6, .int (nI k)), (5, .int (nI t)), (4, .int (nI f)), (0, .ref hm), (1, .int (nI b)), (2, .int (nI d)), (3, .int (nI (f + 64 * t + 4096 * k)))]) hx hb dX5_behind_76 hl (by decide) rfl (fun ls hl => ?_)
    refine lv_iload hx hb dX5_behind_78 (lv_at hl 1 rfl) ?_
    refine roI (rnS (As := [.int (nI (bd f))]) (rest := []) S0 (c_X5_kindOf l (bd f) (by omega)) wm_X5_40 wt_X5_kindOf wn_X5 wc_X5_kindOf hd_X5_kindOf ⟨rfl, rfl, by decide, by decide⟩ True.blind (fun _ _ _ => trivial) hl.1 (Nat.le_of_ble_eq_true rfl) dX5_behind_80 rfl ⟨by decide, by decide⟩) (fun r_2 hr_2 => ?_)
    subst hr_2
    refine lv_iconst (v := (nI 1)) hx hb dX5_behind_83 (by decide) ?_
    refine jnG 104 16 [(9, .int (bI (ctl bd f t))), (8, .int (nI (bd f))), (7, .int (nI sd)), (6, .int (nI k)), (5, .int (nI t)), (4, .int (nI f)), (0, .ref hm), (1, .int (nI b)), (2, .int (nI d)), (3, .int (nI (f + 64 * t + 4096 * k)))] [.int (bI (inp bd sd ps f t))] ?_ (fun hj_104 => ?_)
    · intro ls hl
      refine lv_istore (lv' := [(10, .int (bI (inp bd sd ps f t))), (9, .int (bI (ctl bd f t))), (8, .int (nI (bd f))), (7, .int (nI sd)), (6, .int (nI k)), (5, .int (nI t)), (4, .int (nI f)), (0, .ref hm), (1, .int (nI b)), (2, .int (nI d)), (3, .int (nI (f + 64 * t + 4096 * k)))]) hx hb dX5_behind_104 hl (by decide) rfl (fun ls hl => ?_)
      refine lv_iconst (v := (nI 0)) hx hb dX5_behind_106 (by decide) ?_
      refine lv_istore (lv' := [(11, .int (nI 0)), (10, .int (bI (inp bd sd ps f t))), (9, .int (bI (ctl bd f t))), (8, .int (nI (bd f))), (7, .int (nI sd)), (6, .int (nI k)), (5, .int (nI t)), (4, .int (nI f)), (0, .ref hm), (1, .int (nI b)), (2, .int (nI d)), (3, .int (nI (f + 64 * t + 4096 * k)))]) hx hb dX5_behind_107 hl (by decide) rfl (fun ls hl => ?_)
      refine lpW (σ := (Nat) × (Nat → Int32)) 109 16 [] (fun x9 => [(0, .ref hm), (1, .int (nI b)), (2, .int (nI d)), (4, .int (nI f)), (5, .int (nI t)), (6, .int (nI k)), (7, .int (nI sd)), (8, .int (nI (bd f))), (9, .int (bI (ctl bd f t))), (10, .int (bI (inp bd sd ps f t))), (11, .int (nI x9.1))]) (fun x9 => rW cI hm b0 b1 b2 b3 th mk sz x9.2 mv kp li) (fun x9 => x9.1 ≤ 67 ∧ (∀ j, j < x9.1 → x9.2 (d + j) = F (b + j)) ∧ Ag F x9.2 d) (fun x9 => 67 - x9.1) (0, F) ⟨Nat.zero_le _, fun _ h => absurd h (Nat.not_lt_zero _), Ag.rf⟩ (lv_sub hl [8, 9, 10, 7, 6, 5, 4, 3, 2, 1, 0] rfl) hP hD hS ?_
      clear hP hD hS hl ls
      rintro ⟨i, G⟩ H locs hI hP hD hS ih ls hl
      try dsimp only at hI ih hl hP hD
      obtain ⟨hi, hcp, hAg⟩ := hI
      refine lv_iload hx hb dX5_behind_109 (lv_at hl 10 rfl) ?_
      refine lv_bipush (v := (nI 67)) hx hb dX5_behind_111 (by decide) ?_
      refine ln_icmp_ge (tgt := 140) hx hb dX5_behind_113 (by decide) (by omega) (by decide) (fun c113 => ?_) (fun c113 => ?_)
      · skip
        have hBc : Bp G d bd := fun q hq => by rw [hcp q (by omega)]; exact hBp q hq
        refine lv_iload hx hb dX5_behind_140 (lv_at hl 6 rfl) ?_
        refine jnG 158 16 [(0, .ref hm), (1, .int (nI b)), (2, .int (nI d)), (4, .int (nI f)), (5, .int (nI t)), (6, .int (nI k)), (7, .int (nI sd)), (8, .int (nI (bd f))), (9, .int (bI (ctl bd f t))), (10, .int (bI (inp bd sd ps f t))), (11, .int (nI i))] [.int (bkI sd t)] ?_ (fun hj_158 => ?_)
        · intro ls hl
          refine lv_istore (lv' := [(11, .int (bkI sd t)), (0, .ref hm), (1, .int (nI b)), (2, .int (nI d)), (4, .int (nI f)), (5, .int (nI t)), (6, .int (nI k)), (7, .int (nI sd)), (8, .int (nI (bd f))), (9, .int (bI (ctl bd f t))), (10, .int (bI (inp bd sd ps f t)))]) hx hb dX5_behind_158 hl (by decide) rfl (fun ls hl => ?_)
          refine lv_iload hx hb dX5_behind_160 (lv_at hl 10 rfl) ?_
          refine jnW (σ := (Nat → Int32)) (D := D) (A := A) (H0 := s.heap) 175 16 (fun x9 => [(11, .int (bkI sd t)), (0, .ref hm), (1, .int (nI b)), (2, .int (nI d)), (4, .int (nI f)), (5, .int (nI t)), (6, .int (nI k)), (7, .int (nI sd)), (8, .int (nI (bd f))), (9, .int (bI (ctl bd f t))), (10, .int (bI (inp bd sd ps f t)))]) [] (fun x9 => rW cI hm b0 b1 b2 b3 th mk sz x9 mv kp li) (fun x9 => Bp x9 d (bh1 bd sd ps f t) ∧ Ag F x9 d) ?_ (fun hj_175 => ?_)
          · clear hP hD hS hl ls
            rintro G1 H locs hI hP hD hS ls hl
            try dsimp only at hI hP hD hl
            obtain ⟨hB1, hAg1⟩ := hI
            refine lv_aload_n hx hb dX5_behind_175 rfl (lv_at hl 1 rfl) ?_
            refine va_get (D := D) (ci := 4) (v := .ref b0) (C := RX5) (T := TX5) (N := 7) hx hb hG wu_X5 hown hK hP 0 rfl rfl 1 (by decide) (hG _ wf_X5_7) (fun _ h9 => h9) rfl dX5_behind_176 ?_
            refine lv_iload_n hx hb dX5_behind_179 rfl (lv_at hl 3 rfl) ?_
            refine lv_iload hx hb dX5_behind_180 (lv_at hl 4 rfl) ?_
            refine ln_iadd hx hb dX5_behind_182 ?_
            refine lv_iconst (v := (nI 0)) hx hb dX5_behind_183 (by decide) ?_
            refine va_iast hx hb hK hP hD hS 1 0 rfl rfl (vp_in_nI (by omega) (by decide)) dX5_behind_184 (fun H locs hP hD hS => ?_)
            rw [nI_clamp (show (d + f) < 2 ^ 31 by omega)] at hP hD
            have hP : va_P D classes (rW cI hm b0 b1 b2 b3 th mk sz (upd G1 (d + f) (nI 0)) mv kp li) H := hP
            have hD : va_D A (rW cI hm b0 b1 b2 b3 th mk sz (upd G1 (d + f) (nI 0)) mv kp li) := hD
            refine lv_aload_n hx hb dX5_behind_185 rfl (lv_at hl 1 rfl) ?_
            refine va_get (D := D) (ci := 4) (v := .ref b0) (C := RX5) (T := TX5) (N := 7) hx hb hG wu_X5 hown hK hP 0 rfl rfl 1 (by decide) (hG _ wf_X5_7) (fun _ h9 => h9) rfl dX5_behind_186 ?_
            refine lv_iload_n hx hb dX5_behind_189 rfl (lv_at hl 3 rfl) ?_
            refine lv_iload hx hb dX5_behind_190 (lv_at hl 5 rfl) ?_
            refine ln_iadd hx hb dX5_behind_192 ?_
            refine lv_iload hx hb dX5_behind_193 (lv_at hl 6 rfl) ?_
            refine jnG 211 16 [(11, .int (bkI sd t)), (0, .ref hm), (1, .int (nI b)), (2, .int (nI d)), (4, .int (nI f)), (5, .int (nI t)), (6, .int (nI k)), (7, .int (nI sd)), (8, .int (nI (bd f))), (9, .int (bI (ctl bd f t))), (10, .int (bI (inp bd sd ps f t)))] [.int (nI (if k = 0 then bd f else k + 6 * sd)), .int (nI (d + t)), .ref b0] ?_ (fun hj_211 => ?_)
            · intro ls hl
              have hnv : (if k = 0 then bd f else k + 6 * sd) < 13 := by split <;> omega
              refine va_iast hx hb hK hP hD hS 1 0 rfl rfl (vp_in_nI (by omega) (by decide)) dX5_behind_211 (fun H locs hP hD hS => ?_)
              rw [nI_clamp (show (d + t) < 2 ^ 31 by omega)] at hP hD
              have hP : va_P D classes (rW cI hm b0 b1 b2 b3 th mk sz (upd (upd G1 (d + f) (nI 0)) (d + t) (nI (if k = 0 then bd f else k + 6 * sd))) mv kp li) H := hP
              have hD : va_D A (rW cI hm b0 b1 b2 b3 th mk sz (upd (upd G1 (d + f) (nI 0)) (d + t) (nI (if k = 0 then bd f else k + 6 * sd))) mv kp li) := hD
              have hB2 : Bp _ d (bh2 bd sd ps f t k) := Bp_in (Bp_in hB1 hf (show 0 < 13 by decide)) ht hnv
              have hAg2 := (hAg1.up (k := d + f) (x := nI 0) (by omega) (by omega)).up (k := d + t) (x := nI (if k = 0 then bd f else k + 6 * sd)) (by omega) (by omega)
              refine lv_iload hx hb dX5_behind_212 (lv_at hl 9 rfl) ?_
              refine jnW (σ := (Nat → Int32)) (D := D) (A := A) (H0 := s.heap) 268 16 (fun x9 => [(11, .int (bkI sd t)), (0, .ref hm), (1, .int (nI b)), (2, .int (nI d)), (4, .int (nI f)), (5, .int (nI t)), (6, .int (nI k)), (7, .int (nI sd)), (8, .int (nI (bd f))), (9, .int (bI (ctl bd f t))), (10, .int (bI (inp bd sd ps f t)))]) [] (fun x9 => rW cI hm b0 b1 b2 b3 th mk sz x9 mv kp li) (fun x9 => Bp x9 d (bhB bd sd ps f t k) ∧ Ag F x9 d) ?_ (fun hj_268 => ?_)
              · clear hP hD hS hl ls
                rintro G3 H locs hI hP hD hS ls hl
                try dsimp only at hI hP hD hl
                obtain ⟨hB3, hAg3⟩ := hI
                have hBb := hAg3.Bd hbd hBd
                obtain ⟨-, -, -, hrt3, -, -, -⟩ := id hBb
                refine lv_iload hx hb dX5_behind_268 (lv_at hl 8 rfl) ?_
                refine roI (rnS (As := [.int (nI (bd f))]) (rest := []) S0 (c_X5_kindOf l (bd f) (by omega)) wm_X5_40 wt_X5_kindOf wn_X5 wc_X5_kindOf hd_X5_kindOf ⟨rfl, rfl, by decide, by decide⟩ True.blind (fun _ _ _ => trivial) hl.1 (Nat.le_of_ble_eq_true rfl) dX5_behind_270 rfl ⟨by decide, by decide⟩) (fun r_3 hr_3 => ?_)
                subst hr_3
                refine lv_bipush (v := (nI 6)) hx hb dX5_behind_273 (by decide) ?_
                refine jnG 308 16 [(11, .int (bkI sd t)), (0, .ref hm), (1, .int (nI b)), (2, .int (nI d)), (4, .int (nI f)), (5, .int (nI t)), (6, .int (nI k)), (7, .int (nI sd)), (8, .int (nI (bd f))), (9, .int (bI (ctl bd f t))), (10, .int (bI (inp bd sd ps f t)))] [.int (nI (bhK bd sd rt f))] ?_ (fun hj_308 => ?_)
                · intro ls hl
                  refine lv_istore (lv' := [(12, .int (nI (bhK bd sd rt f))), (11, .int (bkI sd t)), (0, .ref hm), (1, .int (nI b)), (2, .int (nI d)), (4, .int (nI f)), (5, .int (nI t)), (6, .int (nI k)), (7, .int (nI sd)), (8, .int (nI (bd f))), (9, .int (bI (ctl bd f t))), (10, .int (bI (inp bd sd ps f t)))]) hx hb dX5_behind_308 hl (by decide) rfl (fun ls hl => ?_)
                  refine lv_aload_n hx hb dX5_behind_310 rfl (lv_at hl 2 rfl) ?_
                  refine va_get (D := D) (ci := 4) (v := .ref b0) (C := RX5) (T := TX5) (N := 7) hx hb hG wu_X5 hown hK hP 0 rfl rfl 1 (by decide) (hG _ wf_X5_7) (fun _ h9 => h9) rfl dX5_behind_311 ?_
                  refine lv_iload_n hx hb dX5_behind_314 rfl (lv_at hl 4 rfl) ?_
                  refine lv_bipush (v := (nI 65)) hx hb dX5_behind_315 (by decide) ?_
                  refine ln_iadd hx hb dX5_behind_317 ?_
                  refine lv_iload hx hb dX5_behind_318 (lv_at hl 0 rfl) ?_
                  refine lv_iload hx hb dX5_behind_320 (lv_at hl 5 rfl) ?_
                  refine roI (rnS (As := [.int (nI f)]) (rest := [.int (nI (bhK bd sd rt f)), .int (nI (d + 65)), .ref b0]) S0 (c_X5_corner l f (by omega)) wm_X5_80 wt_X5_corner wn_X5 wc_X5_corner hd_X5_corner ⟨rfl, rfl, by decide, by decide⟩ True.blind (fun _ _ _ => trivial) hl.1 (Nat.le_of_ble_eq_true rfl) dX5_behind_322 rfl ⟨by decide, by decide⟩) (fun r_4 hr_4 => ?_)
                  subst hr_4
                  refine lv_iconst (v := (-1)) hx hb dX5_behind_325 (by decide) ?_
                  refine lv_ixor hx hb dX5_behind_326 ?_
                  refine lv_iand hx hb dX5_behind_327 ?_
                  refine W.top (y := .int (nI (bhK bd sd rt f &&& (15 - crn f)))) (congrArg Value.int (andn (bhK_lt hr16) (crn_lt f))) ?_
                  refine lv_iload hx hb dX5_behind_328 (lv_at hl 6 rfl) ?_
                  refine roI (rnS (As := [.int (nI t)]) (rest := [.int (nI (bhK bd sd rt f &&& (15 - crn f))), .int (nI (d + 65)), .ref b0]) S0 (c_X5_corner l t (by omega)) wm_X5_80 wt_X5_corner wn_X5 wc_X5_corner hd_X5_corner ⟨rfl, rfl, by decide, by decide⟩ True.blind (fun _ _ _ => trivial) hl.1 (Nat.le_of_ble_eq_true rfl) dX5_behind_330 rfl ⟨by decide, by decide⟩) (fun r_5 hr_5 => ?_)
                  subst hr_5
                  refine lv_iconst (v := (-1)) hx hb dX5_behind_333 (by decide) ?_
                  refine lv_ixor hx hb dX5_behind_334 ?_
                  refine lv_iand hx hb dX5_behind_335 ?_
                  refine W.top (y := .int (nI (bhR bd sd rt f t))) (congrArg Value.int (andn (and16 (bhK_lt hr16)) (crn_lt t))) ?_
                  refine va_iast hx hb hK hP hD hS 1 0 rfl rfl (vp_in_nI (by omega) (by decide)) dX5_behind_336 (fun H locs hP hD hS => ?_)
                  rw [nI_clamp (show (d + 65) < 2 ^ 31 by omega)] at hP hD
                  have hP : va_P D classes (rW cI hm b0 b1 b2 b3 th mk sz (upd G3 (d + 65) (nI (bhR bd sd rt f t))) mv kp li) H := hP
                  have hD : va_D A (rW cI hm b0 b1 b2 b3 th mk sz (upd G3 (d + 65) (nI (bhR bd sd rt f t))) mv kp li) := hD
                  refine lv_aload_n hx hb dX5_behind_337 rfl (lv_at hl 2 rfl) ?_
                  refine va_get (D := D) (ci := 4) (v := .ref b0) (C := RX5) (T := TX5) (N := 7) hx hb hG wu_X5 hown hK hP 0 rfl rfl 1 (by decide) (hG _ wf_X5_7) (fun _ h9 => h9) rfl dX5_behind_338 ?_
                  refine lv_iload_n hx hb dX5_behind_341 rfl (lv_at hl 4 rfl) ?_
                  refine lv_bipush (v := (nI 66)) hx hb dX5_behind_342 (by decide) ?_
                  refine ln_iadd hx hb dX5_behind_344 ?_
                  refine lv_iconst (v := (-1)) hx hb dX5_behind_345 (by decide) ?_
                  refine va_iast hx hb hK hP hD hS 1 0 rfl rfl (vp_in_nI (by omega) (by decide)) dX5_behind_346 (fun H locs hP hD hS => ?_)
                  rw [nI_clamp (show (d + 66) < 2 ^ 31 by omega)] at hP hD
                  have hP : va_P D classes (rW cI hm b0 b1 b2 b3 th mk sz (upd (upd G3 (d + 65) (nI (bhR bd sd rt f t))) (d + 66) (-1)) mv kp li) H := hP
                  have hD : va_D A (rW cI hm b0 b1 b2 b3 th mk sz (upd (upd G3 (d + 65) (nI (bhR bd sd rt f t))) (d + 66) (-1)) mv kp li) := hD
                  have hB4 : Bp _ d (bhB bd sd ps f t k) := Bp_out (Bp_out hB3 (k := d + 65) (x := nI (bhR bd sd rt f t)) (by omega)) (k := d + 66) (x := (-1)) (by omega)
                  have hAg4 := (hAg3.up (k := d + 65) (x := nI (bhR bd sd rt f t)) (by omega) (by omega)).up (k := d + 66) (x := (-1)) (by omega) (by omega)
                  have h65 : upd (upd G3 (d + 65) (nI (bhR bd sd rt f t))) (d + 66) (-1) (d + 65) = nI (bhR bd sd rt f t) := by rw [pk_un (by omega), pk_us]
                  have h66 : upd (upd G3 (d + 65) (nI (bhR bd sd rt f t))) (d + 66) (-1) (d + 66) = pI 64 := pk_us
                  refine lv_iload hx hb dX5_behind_347 (lv_at hl 9 rfl) ?_
                  refine roI (rnS (As := [.int (nI (bd f))]) (rest := []) S0 (c_X5_kindOf l (bd f) (by omega)) wm_X5_40 wt_X5_kindOf wn_X5 wc_X5_kindOf hd_X5_kindOf ⟨rfl, rfl, by decide, by decide⟩ True.blind (fun _ _ _ => trivial) hl.1 (Nat.le_of_ble_eq_true rfl) dX5_behind_349 rfl ⟨by decide, by decide⟩) (fun r_6 hr_6 => ?_)
                  subst hr_6
                  refine lv_iconst (v := (nI 1)) hx hb dX5_behind_352 (by decide) ?_
                  refine jnW (σ := (Nat → Int32)) (D := D) (A := A) (H0 := s.heap) 465 16 (fun x9 => [(0, .ref hm), (2, .int (nI d)), (7, .int (nI sd))]) [] (fun x9 => rW cI hm b0 b1 b2 b3 th mk sz x9 mv kp li) (fun x9 => Bp x9 d (bhB bd sd ps f t k) ∧ x9 (d + 65) = nI (bhR bd sd rt f t) ∧ x9 (d + 66) = pI (bhP bd sd ps f t k) ∧ Ag F x9 d) ?_ (fun hj_465 => ?_)
                  · clear hP hD hS hl ls
                    rintro G6 H locs hI hP hD hS ls hl
                    try dsimp only at hI hP hD hl
                    obtain ⟨hB6, h65, h66, hAg6⟩ := hI
                    refine lv_aload_n hx hb dX5_behind_465 rfl (lv_at hl 0 rfl) ?_
                    refine va_get (D := D) (ci := 4) (v := .ref b0) (C := RX5) (T := TX5) (N := 7) hx hb hG wu_X5 hown hK hP 0 rfl rfl 1 (by decide) (hG _ wf_X5_7) (fun _ h9 => h9) rfl dX5_behind_466 ?_
                    refine lv_iload_n hx hb dX5_behind_469 rfl (lv_at hl 1 rfl) ?_
                    refine lv_bipush (v := (nI 64)) hx hb dX5_behind_470 (by decide) ?_
                    refine ln_iadd hx hb dX5_behind_472 ?_
                    refine lv_iconst (v := (nI 1)) hx hb dX5_behind_473 (by decide) ?_
                    refine lv_iload hx hb dX5_behind_474 (lv_at hl 2 rfl) ?_
                    refine ln_isub hx hb dX5_behind_476 (by omega) ?_
                    refine va_iast hx hb hK hP hD hS 1 0 rfl rfl (vp_in_nI (by omega) (by decide)) dX5_behind_477 (fun H locs hP hD hS => ?_)
                    rw [nI_clamp (show (d + 64) < 2 ^ 31 by omega)] at hP hD
                    have hP : va_P D classes (rW cI hm b0 b1 b2 b3 th mk sz (upd G6 (d + 64) (nI (1 - sd))) mv kp li) H := hP
                    have hD : va_D A (rW cI hm b0 b1 b2 b3 th mk sz (upd G6 (d + 64) (nI (1 - sd))) mv kp li) := hD
                    exact weV (upd G6 (d + 64) (nI (1 - sd))) hx hb hr hlocks dX5_behind_478 ⟨⟨Bp_out hB6 (by omega), pk_us, by omega, by rw [pk_un (by omega)]; exact h65, bhR_lt hr16, by rw [pk_un (by omega)]; exact h66, by unfold bhP; (repeat' split) <;> omega⟩, hAg6.up (by omega) (by omega)⟩ hP hD hK hA hE hS
                  · skip
                    refine ln_icmp_ne (tgt := 465) hx hb dX5_behind_353 (by decide) (by omega) (by decide) (fun c353 => ?_) (fun c353 => ?_)
                    · skip
                      exact hj_465 (upd (upd G3 (d + 65) (nI (bhR bd sd rt f t))) (d + 66) (-1)) H locs (by unfold bhP; first | (rw [if_neg (fun z => c353 z.1)]; exact ⟨hB4, h65, h66, hAg4⟩) | (rw [if_neg (fun z => c370 z.2)]; exact ⟨hB4, h65, h66, hAg4⟩) | (rw [if_pos ⟨c353, c370⟩]; exact ⟨hB5, h65, h66, hAg5⟩)) hP hD hS ls (lv_sub hl [2, 4, 8] rfl)
                    · skip
                      refine lv_iload hx hb dX5_behind_356 (lv_at hl 5 rfl) ?_
                      refine lv_bipush (v := (nI 8)) hx hb dX5_behind_358 (by decide) ?_
                      refine ln_idiv hx hb dX5_behind_360 (by omega) (by decide) (by decide) ?_
                      refine lv_iload hx hb dX5_behind_361 (lv_at hl 6 rfl) ?_
                      refine lv_bipush (v := (nI 8)) hx hb dX5_behind_363 (by decide) ?_
                      refine ln_idiv hx hb dX5_behind_365 (by omega) (by decide) (by decide) ?_
                      refine roI (rnS (As := [.int (nI (f / 8)), .int (nI (t / 8))]) (rest := []) S0 (c_X5_apart l (f / 8) (t / 8) (by omega) (by omega)) wm_X5_43 wt_X5_apart wn_X5 wc_X5_apart hd_X5_apart ⟨rfl, rfl, by decide, by decide⟩ True.blind (fun _ _ _ => trivial) hl.1 (Nat.le_of_ble_eq_true rfl) dX5_behind_366 rfl ⟨by decide, by decide⟩) (fun r_7 hr_7 => ?_)
                      subst hr_7
                      refine lv_iconst (v := (nI 2)) hx hb dX5_behind_369 (by decide) ?_
                      refine ln_icmp_ne (tgt := 465) hx hb dX5_behind_370 (by decide) (by omega) (by decide) (fun c370 => ?_) (fun c370 => ?_)
                      · skip
                        exact hj_465 (upd (upd G3 (d + 65) (nI (bhR bd sd rt f t))) (d + 66) (-1)) H locs (by unfold bhP; first | (rw [if_neg (fun z => c353 z.1)]; exact ⟨hB4, h65, h66, hAg4⟩) | (rw [if_neg (fun z => c370 z.2)]; exact ⟨hB4, h65, h66, hAg4⟩) | (rw [if_pos ⟨c353, c370⟩]; exact ⟨hB5, h65, h66, hAg5⟩)) hP hD hS ls (lv_sub hl [2, 4, 8] rfl)
                      · skip
                        refine lv_iload hx hb dX5_behind_373 (lv_at hl 5 rfl) ?_
                        refine lv_iload hx hb dX5_behind_375 (lv_at hl 6 rfl) ?_
                        refine ln_iadd hx hb dX5_behind_377 ?_
                        refine lv_iconst (v := (nI 2)) hx hb dX5_behind_378 (by decide) ?_
                        refine ln_idiv hx hb dX5_behind_379 (by omega) (by decide) (by decide) ?_
                        refine lv_istore (lv' := [(13, .int (nI ((f + t) / 2))), (12, .int (nI (bhK bd sd rt f))), (11, .int (bkI sd t)), (0, .ref hm), (1, .int (nI b)), (2, .int (nI d)), (4, .int (nI f)), (5, .int (nI t)), (6, .int (nI k)), (7, .int (nI sd)), (8, .int (nI (bd f))), (9, .int (bI (ctl bd f t))), (10, .int (bI (inp bd sd ps f t)))]) hx hb dX5_behind_380 hl (by decide) rfl (fun ls hl => ?_)
                        refine lv_iconst (v := (nI 0)) hx hb dX5_behind_382 (by decide) ?_
                        refine lv_istore (lv' := [(14, .int (nI 0)), (13, .int (nI ((f + t) / 2))), (12, .int (nI (bhK bd sd rt f))), (11, .int (bkI sd t)), (0, .ref hm), (1, .int (nI b)), (2, .int (nI d)), (4, .int (nI f)), (5, .int (nI t)), (6, .int (nI k)), (7, .int (nI sd)), (8, .int (nI (bd f))), (9, .int (bI (ctl bd f t))), (10, .int (bI (inp bd sd ps f t)))]) hx hb dX5_behind_383 hl (by decide) rfl (fun ls hl => ?_)
                        refine lpW (σ := (Nat) × (Nat → Int32)) 385 16 [] (fun x9 => [(0, .ref hm), (2, .int (nI d)), (7, .int (nI sd)), (13, .int (nI ((f + t) / 2))), (14, .int (nI x9.1))]) (fun x9 => rW cI hm b0 b1 b2 b3 th mk sz x9.2 mv kp li) (fun x9 => x9.1 ≤ 64 ∧ Bp x9.2 d (bhB bd sd ps f t k) ∧ x9.2 (d + 65) = nI (bhR bd sd rt f t) ∧ x9.2 (d + 66) = pI (if tkN (bhB bd sd ps f t k) sd ((f + t) / 2) x9.1 = true then (f + t) / 2 else 64) ∧ Ag F x9.2 d) (fun x9 => 64 - x9.1) (0, (upd (upd G3 (d + 65) (nI (bhR bd sd rt f t))) (d + 66) (-1))) ⟨Nat.zero_le _, hB4, h65, h66, hAg4⟩ (lv_sub hl [4, 6, 10, 1, 0] rfl) hP hD hS ?_
                        clear hP hD hS hl ls
                        rintro ⟨i, G5⟩ H locs hI hP hD hS ih ls hl
                        try dsimp only at hI ih hl hP hD
                        clear hB4 hAg4 h65 h66
                        obtain ⟨hi, hB5, h65, h66, hAg5⟩ := hI
                        refine lv_iload hx hb dX5_behind_385 (lv_at hl 4 rfl) ?_
                        refine lv_bipush (v := (nI 64)) hx hb dX5_behind_387 (by decide) ?_
                        refine ln_icmp_ge (tgt := 465) hx hb dX5_behind_389 (by decide) (by omega) (by decide) (fun c389 => ?_) (fun c389 => ?_)
                        · skip
                          have hi64 : i = 64 := by omega
                          rw [hi64] at h66
                          exact hj_465 G5 H locs (by unfold bhP; first | (rw [if_neg (fun z => c353 z.1)]; exact ⟨hB4, h65, h66, hAg4⟩) | (rw [if_neg (fun z => c370 z.2)]; exact ⟨hB4, h65, h66, hAg4⟩) | (rw [if_pos ⟨c353, c370⟩]; exact ⟨hB5, h65, h66, hAg5⟩)) hP hD hS ls (lv_sub hl [0, 1, 2] rfl)
                        · skip
                          have hi : i < 64 := by omega
                          obtain ⟨hv9, hk9⟩ := hB5 i hi
                          refine lv_aload_n hx hb dX5_behind_392 rfl (lv_at hl 0 rfl) ?_
                          refine va_get (D := D) (ci := 4) (v := .ref b0) (C := RX5) (T := TX5) (N := 7) hx hb hG wu_X5 hown hK hP 0 rfl rfl 1 (by decide) (hG _ wf_X5_7) (fun _ h9 => h9) rfl dX5_behind_393 ?_
                          refine lv_iload_n hx hb dX5_behind_396 rfl (lv_at hl 1 rfl) ?_
                          refine lv_iload hx hb dX5_behind_397 (lv_at hl 4 rfl) ?_
                          refine ln_iadd hx hb dX5_behind_399 ?_
                          refine va_iald hx hb hK hP 1 0 rfl rfl (vp_in_nI (by omega) (by decide)) dX5_behind_400 ?_
                          refine W.top (y := .int (G5 (d + i))) (congrArg (fun z => Value.int (G5 z)) (nI_clamp (by omega))) ?_
                          refine W.top (y := .int (nI (bhB bd sd ps f t k i))) (congrArg Value.int hv9) ?_
                          refine lv_bipush (v := (nI 7)) hx hb dX5_behind_401 (by decide) ?_
                          refine lv_bipush (v := (nI 6)) hx hb dX5_behind_403 (by decide) ?_
                          refine lv_iload hx hb dX5_behind_405 (lv_at hl 2 rfl) ?_
                          refine ln_imul hx hb dX5_behind_407 ?_
                          refine ln_isub hx hb dX5_behind_408 (by omega) ?_
                          refine jnG 429 16 [(0, .ref hm), (2, .int (nI d)), (7, .int (nI sd)), (13, .int (nI ((f + t) / 2))), (14, .int (nI i))] [.int (bI (decide (bhB bd sd ps f t k i = 7 - 6 * sd) && atk (bhB bd sd ps f t k) i ((f + t) / 2)))] ?_ (fun hj_429 => ?_)
                          · intro ls hl
                            refine lv_istore (lv' := [(15, .int (bI (decide (bhB bd sd ps f t k i = 7 - 6 * sd) && atk (bhB bd sd ps f t k) i ((f + t) / 2)))), (0, .ref hm), (2, .int (nI d)), (7, .int (nI sd)), (13, .int (nI ((f + t) / 2))), (14, .int (nI i))]) hx hb dX5_behind_429 hl (by decide) rfl (fun ls hl => ?_)
                            refine lv_aload_n hx hb dX5_behind_431 rfl (lv_at hl 1 rfl) ?_
                            refine va_get (D := D) (ci := 4) (v := .ref b0) (C := RX5) (T := TX5) (N := 7) hx hb hG wu_X5 hown hK hP 0 rfl rfl 1 (by decide) (hG _ wf_X5_7) (fun _ h9 => h9) rfl dX5_behind_432 ?_
                            refine lv_iload_n hx hb dX5_behind_435 rfl (lv_at hl 2 rfl) ?_
                            refine lv_bipush (v := (nI 66)) hx hb dX5_behind_436 (by decide) ?_
                            refine ln_iadd hx hb dX5_behind_438 ?_
                            refine lv_iload hx hb dX5_behind_439 (lv_at hl 0 rfl) ?_
                            refine jnG 458 16 [(15, .int (bI (decide (bhB bd sd ps f t k i = 7 - 6 * sd) && atk (bhB bd sd ps f t k) i ((f + t) / 2)))), (0, .ref hm), (2, .int (nI d)), (7, .int (nI sd)), (13, .int (nI ((f + t) / 2))), (14, .int (nI i))] [.int (pI (if tkN (bhB bd sd ps f t k) sd ((f + t) / 2) (i + 1) = true then (f + t) / 2 else 64)), .int (nI (d + 66)), .ref b0] ?_ (fun hj_458 => ?_)
                            · intro ls hl
                              refine va_iast hx hb hK hP hD hS 1 0 rfl rfl (vp_in_nI (by omega) (by decide)) dX5_behind_458 (fun H locs hP hD hS => ?_)
                              rw [nI_clamp (show (d + 66) < 2 ^ 31 by omega)] at hP hD
                              have hP : va_P D classes (rW cI hm b0 b1 b2 b3 th mk sz (upd G5 (d + 66) (pI (if tkN (bhB bd sd ps f t k) sd ((f + t) / 2) (i + 1) = true then (f + t) / 2 else 64))) mv kp li) H := hP
                              have hD : va_D A (rW cI hm b0 b1 b2 b3 th mk sz (upd G5 (d + 66) (pI (if tkN (bhB bd sd ps f t k) sd ((f + t) / 2) (i + 1) = true then (f + t) / 2 else 64))) mv kp li) := hD
                              refine lv_iinc (v := (nI (i + 1))) (lv' := [(14, .int (nI (i + 1))), (15, .int (bI (decide (bhB bd sd ps f t k i = 7 - 6 * sd) && atk (bhB bd sd ps f t k) i ((f + t) / 2)))), (0, .ref hm), (2, .int (nI d)), (7, .int (nI sd)), (13, .int (nI ((f + t) / 2)))]) hx hb dX5_behind_459 hl (k := 5) rfl (show nI i + Int32.ofInt 1 = nI (i + 1) from nI_add _ 1) (by decide) rfl (fun ls hl => ?_)
                              refine lv_goto (tgt := 385) hx hb dX5_behind_462 (by decide) ?_
                              exact ih ((i + 1), (upd G5 (d + 66) (pI (if tkN (bhB bd sd ps f t k) sd ((f + t) / 2) (i + 1) = true then (f + t) / 2 else 64)))) H locs ⟨by omega, Bp_out hB5 (by omega), by dsimp only; rw [pk_un (by omega)]; exact h65, pk_us, hAg5.up (by omega) (by omega)⟩ (by (try dsimp only); omega) hP hD hS ls (lv_sub hl [2, 3, 4, 5, 0] rfl)
                            · skip
                              refine lb_if_eq (tgt := 449) hx hb dX5_behind_441 (by decide) (fun c441 => ?_) (fun c441 => ?_)
                              · skip
                                refine lv_aload_n hx hb dX5_behind_449 rfl (lv_at hl 1 rfl) ?_
                                refine va_get (D := D) (ci := 4) (v := .ref b0) (C := RX5) (T := TX5) (N := 7) hx hb hG wu_X5 hown hK hP 0 rfl rfl 1 (by decide) (hG _ wf_X5_7) (fun _ h9 => h9) rfl dX5_behind_450 ?_
                                refine lv_iload_n hx hb dX5_behind_453 rfl (lv_at hl 2 rfl) ?_
                                refine lv_bipush (v := (nI 66)) hx hb dX5_behind_454 (by decide) ?_
                                refine ln_iadd hx hb dX5_behind_456 ?_
                                refine va_iald hx hb hK hP 1 0 rfl rfl (vp_in_nI (by omega) (by decide)) dX5_behind_457 ?_
                                refine W.top (y := .int (G5 (d + 66))) (congrArg (fun z => Value.int (G5 z)) (nI_clamp (by omega))) ?_
                                refine W.top (y := .int (pI (if tkN (bhB bd sd ps f t k) sd ((f + t) / 2) i = true then (f + t) / 2 else 64))) (congrArg Value.int h66) ?_
                                refine W.top (y := .int (pI (if tkN (bhB bd sd ps f t k) sd ((f + t) / 2) (i + 1) = true then (f + t) / 2 else 64))) (congrArg Value.int (by rw [tkN_s, c441]; first | rw [Bool.or_false] | (rw [Bool.or_true, if_pos rfl, pI_lt (by omega)]))) ?_
                                exact hj_458 ls (lv_sub hl [0, 1, 2, 3, 4, 5] rfl)
                              · skip
                                refine lv_iload hx hb dX5_behind_444 (lv_at hl 4 rfl) ?_
                                refine lv_goto (tgt := 458) hx hb dX5_behind_446 (by decide) ?_
                                refine W.top (y := .int (pI (if tkN (bhB bd sd ps f t k) sd ((f + t) / 2) (i + 1) = true then (f + t) / 2 else 64))) (congrArg Value.int (by rw [tkN_s, c441]; first | rw [Bool.or_false] | (rw [Bool.or_true, if_pos rfl, pI_lt (by omega)]))) ?_
                                exact hj_458 ls (lv_sub hl [0, 1, 2, 3, 4, 5] rfl)
                          · skip
                            refine ln_icmp_ne (tgt := 428) hx hb dX5_behind_409 (by decide) (by omega) (by omega) (fun c409 => ?_) (fun c409 => ?_)
                            · skip
                              refine lv_iconst (v := (nI 0)) hx hb dX5_behind_428 (by decide) ?_
                              refine W.top (y := .int (bI (decide (bhB bd sd ps f t k i = 7 - 6 * sd) && atk (bhB bd sd ps f t k) i ((f + t) / 2)))) (congrArg Value.int (by first | (rw [decide_eq_true c409, c421]; rfl) | (rw [decide_eq_false c409]; rfl))) ?_
                              exact hj_429 ls (lv_sub hl [0, 1, 2, 3, 4] rfl)
                            · skip
                              refine lv_aload_n hx hb dX5_behind_412 rfl (lv_at hl 0 rfl) ?_
                              refine lv_iload_n hx hb dX5_behind_413 rfl (lv_at hl 1 rfl) ?_
                              refine lv_iload hx hb dX5_behind_414 (lv_at hl 4 rfl) ?_
                              refine lv_iload hx hb dX5_behind_416 (lv_at hl 3 rfl) ?_
                              refine roI (rnV (As := [.int (nI d), .int (nI i), .int (nI ((f + t) / 2))]) (rest := []) S0 (c_X5_attacks l (bhB bd sd ps f t k) d i ((f + t) / 2) hd9 hi (by omega) hB5) wm_X5_54 wi_X5_attacks ws_X5_attacks wn_X5 wc_X5_attacks hd_X5_attacks ⟨rfl, rfl, by decide, by decide⟩ IW.blind (va_recv hK hP (ci := 4) (q0 := 0) rfl rfl) (IW.at hP hD hK hA hE hS) hl.1 (Nat.le_of_ble_eq_true rfl) dX5_behind_418 rfl ⟨by decide, by decide⟩) (fun r_8 hr_8 => ?_)
                              subst hr_8
                              refine lb_if_eq (tgt := 428) hx hb dX5_behind_421 (by decide) (fun c421 => ?_) (fun c421 => ?_)
                              · skip
                                refine lv_iconst (v := (nI 0)) hx hb dX5_behind_428 (by decide) ?_
                                refine W.top (y := .int (bI (decide (bhB bd sd ps f t k i = 7 - 6 * sd) && atk (bhB bd sd ps f t k) i ((f + t) / 2)))) (congrArg Value.int (by first | (rw [decide_eq_true c409, c421]; rfl) | (rw [decide_eq_false c409]; rfl))) ?_
                                exact hj_429 ls (lv_sub hl [0, 1, 2, 3, 4] rfl)
                              · skip
                                refine lv_iconst (v := (nI 1)) hx hb dX5_behind_424 (by decide) ?_
                                refine lv_goto (tgt := 429) hx hb dX5_behind_425 (by decide) ?_
                                refine W.top (y := .int (bI (decide (bhB bd sd ps f t k i = 7 - 6 * sd) && atk (bhB bd sd ps f t k) i ((f + t) / 2)))) (congrArg Value.int (by first | (rw [decide_eq_true c409, c421]; rfl) | (rw [decide_eq_false c409]; rfl))) ?_
                                exact hj_429 ls (lv_sub hl [0, 1, 2, 3, 4] rfl)
                · skip
                  refine ln_icmp_ne (tgt := 299) hx hb dX5_behind_275 (by decide) (by omega) (by decide) (fun c275 => ?_) (fun c275 => ?_)
                  · skip
                    refine lv_aload_n hx hb dX5_behind_299 rfl (lv_at hl 1 rfl) ?_
                    refine va_get (D := D) (ci := 4) (v := .ref b0) (C := RX5) (T := TX5) (N := 7) hx hb hG wu_X5 hown hK hP 0 rfl rfl 1 (by decide) (hG _ wf_X5_7) (fun _ h9 => h9) rfl dX5_behind_300 ?_
                    refine lv_iload_n hx hb dX5_behind_303 rfl (lv_at hl 2 rfl) ?_
                    refine lv_bipush (v := (nI 65)) hx hb dX5_behind_304 (by decide) ?_
                    refine ln_iadd hx hb dX5_behind_306 ?_
                    refine va_iald hx hb hK hP 1 0 rfl rfl (vp_in_nI (by omega) (by decide)) dX5_behind_307 ?_
                    refine W.top (y := .int (G3 (b + 65))) (congrArg (fun z => Value.int (G3 z)) (nI_clamp (by omega))) ?_
                    refine W.top (y := .int (nI rt)) (congrArg Value.int hrt3) ?_
                    refine W.top (y := .int (nI (bhK bd sd rt f))) (congrArg Value.int (by unfold bhK; first | (rw [if_pos c275, (sh3 hs2).1]; exact andn hr16 (sh3 hs2).2) | rw [if_neg c275])) ?_
                    exact hj_308 ls (lv_sub hl [0, 1, 2, 3, 4, 5, 6, 7, 8, 9, 10] rfl)
                  · skip
                    refine lv_aload_n hx hb dX5_behind_278 rfl (lv_at hl 1 rfl) ?_
                    refine va_get (D := D) (ci := 4) (v := .ref b0) (C := RX5) (T := TX5) (N := 7) hx hb hG wu_X5 hown hK hP 0 rfl rfl 1 (by decide) (hG _ wf_X5_7) (fun _ h9 => h9) rfl dX5_behind_279 ?_
                    refine lv_iload_n hx hb dX5_behind_282 rfl (lv_at hl 2 rfl) ?_
                    refine lv_bipush (v := (nI 65)) hx hb dX5_behind_283 (by decide) ?_
                    refine ln_iadd hx hb dX5_behind_285 ?_
                    refine va_iald hx hb hK hP 1 0 rfl rfl (vp_in_nI (by omega) (by decide)) dX5_behind_286 ?_
                    refine W.top (y := .int (G3 (b + 65))) (congrArg (fun z => Value.int (G3 z)) (nI_clamp (by omega))) ?_
                    refine W.top (y := .int (nI rt)) (congrArg Value.int hrt3) ?_
                    refine lv_iconst (v := (nI 3)) hx hb dX5_behind_287 (by decide) ?_
                    refine lv_iconst (v := (nI 2)) hx hb dX5_behind_288 (by decide) ?_
                    refine lv_iload hx hb dX5_behind_289 (lv_at hl 7 rfl) ?_
                    refine ln_imul hx hb dX5_behind_291 ?_
                    refine lv_ishl hx hb dX5_behind_292 ?_
                    refine lv_iconst (v := (-1)) hx hb dX5_behind_293 (by decide) ?_
                    refine lv_ixor hx hb dX5_behind_294 ?_
                    refine lv_iand hx hb dX5_behind_295 ?_
                    refine lv_goto (tgt := 308) hx hb dX5_behind_296 (by decide) ?_
                    refine W.top (y := .int (nI (bhK bd sd rt f))) (congrArg Value.int (by unfold bhK; first | (rw [if_pos c275, (sh3 hs2).1]; exact andn hr16 (sh3 hs2).2) | rw [if_neg c275])) ?_
                    exact hj_308 ls (lv_sub hl [0, 1, 2, 3, 4, 5, 6, 7, 8, 9, 10] rfl)
              · skip
                refine lb_if_eq (tgt := 268) hx hb dX5_behind_214 (by decide) (fun c214 => ?_) (fun c214 => ?_)
                · skip
                  exact hj_268 (upd (upd G1 (d + f) (nI 0)) (d + t) (nI (if k = 0 then bd f else k + 6 * sd))) H locs (by unfold bhB; first | (rw [if_neg (show ¬ ctl bd f t = true by rw [c214]; decide)]; exact ⟨hB2, hAg2⟩) | (rw [if_pos c214]; exact ⟨Bp_in (Bp_in hB2 hrl (by decide)) (by omega) (by omega), (hAg2.up (by omega) (by omega)).up (by omega) (by omega)⟩)) hP hD hS ls (lv_sub hl [0, 1, 2, 3, 4, 5, 6, 7, 8, 9, 10] rfl)
                · skip
                  obtain ⟨ho1, ho2⟩ := ctl_own hgo c214
                  refine lv_iload hx hb dX5_behind_217 (lv_at hl 5 rfl) ?_
                  refine lv_iload hx hb dX5_behind_219 (lv_at hl 4 rfl) ?_
                  refine jnG 235 16 [(11, .int (bkI sd t)), (0, .ref hm), (1, .int (nI b)), (2, .int (nI d)), (4, .int (nI f)), (5, .int (nI t)), (6, .int (nI k)), (7, .int (nI sd)), (8, .int (nI (bd f))), (9, .int (bI (ctl bd f t))), (10, .int (bI (inp bd sd ps f t)))] [.int (nI (rok f t))] ?_ (fun hj_235 => ?_)
                  · intro ls hl
                    have hrl : rok f t < 64 := by unfold rok; split <;> omega
                    refine lv_istore (lv' := [(12, .int (nI (rok f t))), (11, .int (bkI sd t)), (0, .ref hm), (1, .int (nI b)), (2, .int (nI d)), (4, .int (nI f)), (5, .int (nI t)), (6, .int (nI k)), (7, .int (nI sd)), (8, .int (nI (bd f))), (9, .int (bI (ctl bd f t))), (10, .int (bI (inp bd sd ps f t)))]) hx hb dX5_behind_235 hl (by decide) rfl (fun ls hl => ?_)
                    refine lv_aload_n hx hb dX5_behind_237 rfl (lv_at hl 2 rfl) ?_
                    refine va_get (D := D) (ci := 4) (v := .ref b0) (C := RX5) (T := TX5) (N := 7) hx hb hG wu_X5 hown hK hP 0 rfl rfl 1 (by decide) (hG _ wf_X5_7) (fun _ h9 => h9) rfl dX5_behind_238 ?_
                    refine lv_iload_n hx hb dX5_behind_241 rfl (lv_at hl 4 rfl) ?_
                    refine lv_iload hx hb dX5_behind_242 (lv_at hl 0 rfl) ?_
                    refine ln_iadd hx hb dX5_behind_244 ?_
                    refine lv_iconst (v := (nI 0)) hx hb dX5_behind_245 (by decide) ?_
                    refine va_iast hx hb hK hP hD hS 1 0 rfl rfl (vp_in_nI (by omega) (by decide)) dX5_behind_246 (fun H locs hP hD hS => ?_)
                    rw [nI_clamp (show (d + (rok f t)) < 2 ^ 31 by omega)] at hP hD
                    have hP : va_P D classes (rW cI hm b0 b1 b2 b3 th mk sz (upd (upd (upd G1 (d + f) (nI 0)) (d + t) (nI (if k = 0 then bd f else k + 6 * sd))) (d + (rok f t)) (nI 0)) mv kp li) H := hP
                    have hD : va_D A (rW cI hm b0 b1 b2 b3 th mk sz (upd (upd (upd G1 (d + f) (nI 0)) (d + t) (nI (if k = 0 then bd f else k + 6 * sd))) (d + (rok f t)) (nI 0)) mv kp li) := hD
                    refine lv_aload_n hx hb dX5_behind_247 rfl (lv_at hl 2 rfl) ?_
                    refine va_get (D := D) (ci := 4) (v := .ref b0) (C := RX5) (T := TX5) (N := 7) hx hb hG wu_X5 hown hK hP 0 rfl rfl 1 (by decide) (hG _ wf_X5_7) (fun _ h9 => h9) rfl dX5_behind_248 ?_
                    refine lv_iload_n hx hb dX5_behind_251 rfl (lv_at hl 4 rfl) ?_
                    refine lv_iload hx hb dX5_behind_252 (lv_at hl 5 rfl) ?_
                    refine lv_iload hx hb dX5_behind_254 (lv_at hl 6 rfl) ?_
                    refine ln_iadd hx hb dX5_behind_256 ?_
                    refine lv_iconst (v := (nI 2)) hx hb dX5_behind_257 (by decide) ?_
                    refine ln_idiv hx hb dX5_behind_258 (by omega) (by decide) (by decide) ?_
                    refine ln_iadd hx hb dX5_behind_259 ?_
                    refine lv_iconst (v := (nI 4)) hx hb dX5_behind_260 (by decide) ?_
                    refine lv_bipush (v := (nI 6)) hx hb dX5_behind_261 (by decide) ?_
                    refine lv_iload hx hb dX5_behind_263 (lv_at hl 8 rfl) ?_
                    refine ln_imul hx hb dX5_behind_265 ?_
                    refine ln_iadd hx hb dX5_behind_266 ?_
                    refine va_iast hx hb hK hP hD hS 1 0 rfl rfl (vp_in_nI (by omega) (by decide)) dX5_behind_267 (fun H locs hP hD hS => ?_)
                    rw [nI_clamp (show (d + ((f + t) / 2)) < 2 ^ 31 by omega)] at hP hD
                    have hP : va_P D classes (rW cI hm b0 b1 b2 b3 th mk sz (upd (upd (upd (upd G1 (d + f) (nI 0)) (d + t) (nI (if k = 0 then bd f else k + 6 * sd))) (d + (rok f t)) (nI 0)) (d + ((f + t) / 2)) (nI (4 + (6 * sd)))) mv kp li) H := hP
                    have hD : va_D A (rW cI hm b0 b1 b2 b3 th mk sz (upd (upd (upd (upd G1 (d + f) (nI 0)) (d + t) (nI (if k = 0 then bd f else k + 6 * sd))) (d + (rok f t)) (nI 0)) (d + ((f + t) / 2)) (nI (4 + (6 * sd)))) mv kp li) := hD
                    exact hj_268 (upd (upd (upd (upd G1 (d + f) (nI 0)) (d + t) (nI (if k = 0 then bd f else k + 6 * sd))) (d + (rok f t)) (nI 0)) (d + ((f + t) / 2)) (nI (4 + (6 * sd)))) H locs (by unfold bhB; first | (rw [if_neg (show ¬ ctl bd f t = true by rw [c214]; decide)]; exact ⟨hB2, hAg2⟩) | (rw [if_pos c214]; exact ⟨Bp_in (Bp_in hB2 hrl (by decide)) (by omega) (by omega), (hAg2.up (by omega) (by omega)).up (by omega) (by omega)⟩)) hP hD hS ls (lv_sub hl [1, 2, 3, 4, 5, 6, 7, 8, 9, 10, 11] rfl)
                  · skip
                    refine ln_icmp_le (tgt := 231) hx hb dX5_behind_221 (by decide) (by omega) (by omega) (fun c221 => ?_) (fun c221 => ?_)
                    · skip
                      refine lv_iload hx hb dX5_behind_231 (lv_at hl 4 rfl) ?_
                      refine lv_iconst (v := (nI 4)) hx hb dX5_behind_233 (by decide) ?_
                      refine ln_isub hx hb dX5_behind_234 (by omega) ?_
                      refine W.top (y := .int (nI (rok f t))) (congrArg Value.int (congrArg nI (by unfold rok; first | rw [if_neg (by omega)] | rw [if_pos (by omega)]))) ?_
                      exact hj_235 ls (lv_sub hl [0, 1, 2, 3, 4, 5, 6, 7, 8, 9, 10] rfl)
                    · skip
                      refine lv_iload hx hb dX5_behind_224 (lv_at hl 4 rfl) ?_
                      refine lv_iconst (v := (nI 3)) hx hb dX5_behind_226 (by decide) ?_
                      refine ln_iadd hx hb dX5_behind_227 ?_
                      refine lv_goto (tgt := 235) hx hb dX5_behind_228 (by decide) ?_
                      refine W.top (y := .int (nI (rok f t))) (congrArg Value.int (congrArg nI (by unfold rok; first | rw [if_neg (by omega)] | rw [if_pos (by omega)]))) ?_
                      exact hj_235 ls (lv_sub hl [0, 1, 2, 3, 4, 5, 6, 7, 8, 9, 10] rfl)
            · skip
              refine ln_if_le (tgt := 209) hx hb dX5_behind_195 (by decide) (by omega) (fun c195 => ?_) (fun c195 => ?_)
              · skip
                refine lv_iload hx hb dX5_behind_209 (lv_at hl 8 rfl) ?_
                refine W.top (y := .int (nI (if k = 0 then bd f else k + 6 * sd))) (congrArg Value.int (congrArg nI (by first | rw [if_pos c195] | rw [if_neg c195]))) ?_
                exact hj_211 ls (lv_sub hl [0, 1, 2, 3, 4, 5, 6, 7, 8, 9, 10] rfl)
              · skip
                refine lv_iload hx hb dX5_behind_198 (lv_at hl 6 rfl) ?_
                refine lv_bipush (v := (nI 6)) hx hb dX5_behind_200 (by decide) ?_
                refine lv_iload hx hb dX5_behind_202 (lv_at hl 7 rfl) ?_
                refine ln_imul hx hb dX5_behind_204 ?_
                refine ln_iadd hx hb dX5_behind_205 ?_
                refine lv_goto (tgt := 211) hx hb dX5_behind_206 (by decide) ?_
                refine W.top (y := .int (nI (if k = 0 then bd f else k + 6 * sd))) (congrArg Value.int (congrArg nI (by first | rw [if_pos c195] | rw [if_neg c195]))) ?_
                exact hj_211 ls (lv_sub hl [0, 1, 2, 3, 4, 5, 6, 7, 8, 9, 10] rfl)
          · skip
            refine lb_if_eq (tgt := 175) hx hb dX5_behind_162 (by decide) (fun c162 => ?_) (fun c162 => ?_)
            · skip
              exact hj_175 G H locs (by unfold bh1; first | (rw [if_neg (show ¬ inp bd sd ps f t = true by rw [c162]; decide)]; exact ⟨hBc, hAg⟩) | (rw [if_pos c162]; exact ⟨Bp_in hBc hbl (by omega), hAg.up (by omega) (by omega)⟩)) hP hD hS ls (lv_sub hl [0, 1, 2, 3, 4, 5, 6, 7, 8, 9, 10] rfl)
            · skip
              obtain ⟨hbe, hbl⟩ := bk_e ht (inp_bk c162)
              refine lv_aload_n hx hb dX5_behind_165 rfl (lv_at hl 1 rfl) ?_
              refine va_get (D := D) (ci := 4) (v := .ref b0) (C := RX5) (T := TX5) (N := 7) hx hb hG wu_X5 hown hK hP 0 rfl rfl 1 (by decide) (hG _ wf_X5_7) (fun _ h9 => h9) rfl dX5_behind_166 ?_
              refine lv_iload_n hx hb dX5_behind_169 rfl (lv_at hl 3 rfl) ?_
              refine lv_iload hx hb dX5_behind_170 (lv_at hl 0 rfl) ?_
              refine W.top (y := .int (nI (bkN sd t))) (congrArg Value.int hbe) ?_
              refine ln_iadd hx hb dX5_behind_172 ?_
              refine lv_iconst (v := (nI 0)) hx hb dX5_behind_173 (by decide) ?_
              refine va_iast hx hb hK hP hD hS 1 0 rfl rfl (vp_in_nI (by omega) (by decide)) dX5_behind_174 (fun H locs hP hD hS => ?_)
              rw [nI_clamp (show (d + (bkN sd t)) < 2 ^ 31 by omega)] at hP hD
              have hP : va_P D classes (rW cI hm b0 b1 b2 b3 th mk sz (upd G (d + (bkN sd t)) (nI 0)) mv kp li) H := hP
              have hD : va_D A (rW cI hm b0 b1 b2 b3 th mk sz (upd G (d + (bkN sd t)) (nI 0)) mv kp li) := hD
              exact hj_175 (upd G (d + (bkN sd t)) (nI 0)) H locs (by unfold bh1; first | (rw [if_neg (show ¬ inp bd sd ps f t = true by rw [c162]; decide)]; exact ⟨hBc, hAg⟩) | (rw [if_pos c162]; exact ⟨Bp_in hBc hbl (by omega), hAg.up (by omega) (by omega)⟩)) hP hD hS ls (lv_sub hl [0, 1, 2, 3, 4, 5, 6, 7, 8, 9, 10] rfl)
        · skip
          refine ln_if_ne (tgt := 153) hx hb dX5_behind_142 (by decide) (by omega) (fun c142 => ?_) (fun c142 => ?_)
          · skip
            refine lv_iload hx hb dX5_behind_153 (lv_at hl 4 rfl) ?_
            refine lv_bipush (v := (nI 8)) hx hb dX5_behind_155 (by decide) ?_
            refine ln_iadd hx hb dX5_behind_157 ?_
            refine W.top (y := .int (bkI sd t)) (congrArg Value.int (by unfold bkI; first | rw [if_pos c142] | rw [if_neg c142])) ?_
            exact hj_158 ls (lv_sub hl [0, 1, 2, 3, 4, 5, 6, 7, 8, 9, 10] rfl)
          · skip
            refine lv_iload hx hb dX5_behind_145 (lv_at hl 4 rfl) ?_
            refine lv_bipush (v := (nI 8)) hx hb dX5_behind_147 (by decide) ?_
            refine lv_isub hx hb dX5_behind_149 ?_
            refine lv_goto (tgt := 158) hx hb dX5_behind_150 (by decide) ?_
            refine W.top (y := .int (bkI sd t)) (congrArg Value.int (by unfold bkI; first | rw [if_pos c142] | rw [if_neg c142])) ?_
            exact hj_158 ls (lv_sub hl [0, 1, 2, 3, 4, 5, 6, 7, 8, 9, 10] rfl)
      · skip
        refine lv_aload_n hx hb dX5_behind_116 rfl (lv_at hl 0 rfl) ?_
        refine va_get (D := D) (ci := 4) (v := .ref b0) (C := RX5) (T := TX5) (N := 7) hx hb hG wu_X5 hown hK hP 0 rfl rfl 1 (by decide) (hG _ wf_X5_7) (fun _ h9 => h9) rfl dX5_behind_117 ?_
        refine lv_iload_n hx hb dX5_behind_120 rfl (lv_at hl 2 rfl) ?_
        refine lv_iload hx hb dX5_behind_121 (lv_at hl 10 rfl) ?_
        refine ln_iadd hx hb dX5_behind_123 ?_
        refine lv_aload_n hx hb dX5_behind_124 rfl (lv_at hl 0 rfl) ?_
        refine va_get (D := D) (ci := 4) (v := .ref b0) (C := RX5) (T := TX5) (N := 7) hx hb hG wu_X5 hown hK hP 0 rfl rfl 1 (by decide) (hG _ wf_X5_7) (fun _ h9 => h9) rfl dX5_behind_125 ?_
        refine lv_iload_n hx hb dX5_behind_128 rfl (lv_at hl 1 rfl) ?_
        refine lv_iload hx hb dX5_behind_129 (lv_at hl 10 rfl) ?_
        refine ln_iadd hx hb dX5_behind_131 ?_
        refine va_iald hx hb hK hP 1 0 rfl rfl (vp_in_nI (by omega) (by decide)) dX5_behind_132 ?_
        refine W.top (y := .int (G (b + i))) (congrArg (fun z => Value.int (G z)) (nI_clamp (by omega))) ?_
        refine va_iast hx hb hK hP hD hS 1 0 rfl rfl (vp_in_nI (by omega) (by decide)) dX5_behind_133 (fun H locs hP hD hS => ?_)
        rw [nI_clamp (show (d + i) < 2 ^ 31 by omega)] at hP hD
        have hP : va_P D classes (rW cI hm b0 b1 b2 b3 th mk sz (upd G (d + i) (G (b + i))) mv kp li) H := hP
        have hD : va_D A (rW cI hm b0 b1 b2 b3 th mk sz (upd G (d + i) (G (b + i))) mv kp li) := hD
        refine lv_iinc (v := (nI (i + 1))) (lv' := [(11, .int (nI (i + 1))), (0, .ref hm), (1, .int (nI b)), (2, .int (nI d)), (4, .int (nI f)), (5, .int (nI t)), (6, .int (nI k)), (7, .int (nI sd)), (8, .int (nI (bd f))), (9, .int (bI (ctl bd f t))), (10, .int (bI (inp bd sd ps f t)))]) hx hb dX5_behind_134 hl (k := 10) rfl (show nI i + Int32.ofInt 1 = nI (i + 1) from nI_add _ 1) (by decide) rfl (fun ls hl => ?_)
        refine lv_goto (tgt := 109) hx hb dX5_behind_137 (by decide) ?_
        exact ih ((i + 1), (upd G (d + i) (G (b + i)))) H locs ⟨by omega, cp_s hcp (hAg _ (by omega)), hAg.up (by omega) (by omega)⟩ (by (try dsimp only); omega) hP hD hS ls (lv_sub hl [1, 2, 3, 4, 5, 6, 7, 8, 9, 10, 0] rfl)
    · skip
      refine ln_icmp_ne (tgt := 103) hx hb dX5_behind_84 (by decide) (by omega) (by decide) (fun c84 => ?_) (fun c84 => ?_)
      · skip
        refine lv_iconst (v := (nI 0)) hx hb dX5_behind_103 (by decide) ?_
        refine W.top (y := .int (bI (inp bd sd ps f t))) (congrArg Value.int (by unfold inp; first | (rw [decide_eq_true c84, c96]; rfl) | (rw [decide_eq_false c84]; rfl))) ?_
        exact hj_104 ls (lv_sub hl [0, 1, 2, 3, 4, 5, 6, 7, 8, 9] rfl)
      · skip
        refine lv_aload_n hx hb dX5_behind_87 rfl (lv_at hl 6 rfl) ?_
        refine lv_iload_n hx hb dX5_behind_88 rfl (lv_at hl 7 rfl) ?_
        refine lv_iload hx hb dX5_behind_89 (lv_at hl 5 rfl) ?_
        refine lv_iload hx hb dX5_behind_91 (lv_at hl 4 rfl) ?_
        refine roI (rnV (As := [.int (nI b), .int (nI f), .int (nI t)]) (rest := []) S0 (c_X5_takesPassing l bd sd rt ps b f t (by omega) hf ht hBd) wm_X5_71 wi_X5_takesPassing ws_X5_takesPassing wn_X5 wc_X5_takesPassing hd_X5_takesPassing ⟨rfl, rfl, by decide, by decide⟩ IW.blind (va_recv hK hP (ci := 4) (q0 := 0) rfl rfl) (IW.at hP hD hK hA hE hS) hl.1 (Nat.le_of_ble_eq_true rfl) dX5_behind_93 rfl ⟨by decide, by decide⟩) (fun r_9 hr_9 => ?_)
        subst hr_9
        refine lb_if_eq (tgt := 103) hx hb dX5_behind_96 (by decide) (fun c96 => ?_) (fun c96 => ?_)
        · skip
          refine lv_iconst (v := (nI 0)) hx hb dX5_behind_103 (by decide) ?_
          refine W.top (y := .int (bI (inp bd sd ps f t))) (congrArg Value.int (by unfold inp; first | (rw [decide_eq_true c84, c96]; rfl) | (rw [decide_eq_false c84]; rfl))) ?_
          exact hj_104 ls (lv_sub hl [0, 1, 2, 3, 4, 5, 6, 7, 8, 9] rfl)
        · skip
          refine lv_iconst (v := (nI 1)) hx hb dX5_behind_99 (by decide) ?_
          refine lv_goto (tgt := 104) hx hb dX5_behind_100 (by decide) ?_
          refine W.top (y := .int (bI (inp bd sd ps f t))) (congrArg Value.int (by unfold inp; first | (rw [decide_eq_true c84, c96]; rfl) | (rw [decide_eq_false c84]; rfl))) ?_
          exact hj_104 ls (lv_sub hl [0, 1, 2, 3, 4, 5, 6, 7, 8, 9] rfl)
  · skip
    refine ln_icmp_ne (tgt := 75) hx hb dX5_behind_51 (by decide) (by omega) (by decide) (fun c51 => ?_) (fun c51 => ?_)
    · skip
      refine lv_iconst (v := (nI 0)) hx hb dX5_behind_75 (by decide) ?_
      refine W.top (y := .int (bI (ctl bd f t))) (congrArg Value.int (by unfold ctl; first | (rw [decide_eq_true c51, decide_eq_true c68]; rfl) | (rw [decide_eq_true c51, decide_eq_false c68]; rfl) | (rw [decide_eq_false c51]; rfl))) ?_
      exact hj_76 ls (lv_sub hl [0, 1, 2, 3, 4, 5, 6, 7, 8] rfl)
    · skip
      refine lv_iload hx hb dX5_behind_54 (lv_at hl 4 rfl) ?_
      refine lv_bipush (v := (nI 8)) hx hb dX5_behind_56 (by decide) ?_
      refine ln_irem hx hb dX5_behind_58 (by omega) (by decide) (by decide) ?_
      refine lv_iload hx hb dX5_behind_59 (lv_at hl 3 rfl) ?_
      refine lv_bipush (v := (nI 8)) hx hb dX5_behind_61 (by decide) ?_
      refine ln_irem hx hb dX5_behind_63 (by omega) (by decide) (by decide) ?_
      refine roI (rnS (As := [.int (nI (f % 8)), .int (nI (t % 8))]) (rest := []) S0 (c_X5_apart l (f % 8) (t % 8) (by omega) (by omega)) wm_X5_43 wt_X5_apart wn_X5 wc_X5_apart hd_X5_apart ⟨rfl, rfl, by decide, by decide⟩ True.blind (fun _ _ _ => trivial) hl.1 (Nat.le_of_ble_eq_true rfl) dX5_behind_64 rfl ⟨by decide, by decide⟩) (fun r_10 hr_10 => ?_)
      subst hr_10
      refine lv_iconst (v := (nI 2)) hx hb dX5_behind_67 (by decide) ?_
      refine ln_icmp_ne (tgt := 75) hx hb dX5_behind_68 (by decide) (by omega) (by decide) (fun c68 => ?_) (fun c68 => ?_)
      · skip
        refine lv_iconst (v := (nI 0)) hx hb dX5_behind_75 (by decide) ?_
        refine W.top (y := .int (bI (ctl bd f t))) (congrArg Value.int (by unfold ctl; first | (rw [decide_eq_true c51, decide_eq_true c68]; rfl) | (rw [decide_eq_true c51, decide_eq_false c68]; rfl) | (rw [decide_eq_false c51]; rfl))) ?_
        exact hj_76 ls (lv_sub hl [0, 1, 2, 3, 4, 5, 6, 7, 8] rfl)
      · skip
        refine lv_iconst (v := (nI 1)) hx hb dX5_behind_71 (by decide) ?_
        refine lv_goto (tgt := 76) hx hb dX5_behind_72 (by decide) ?_
        refine W.top (y := .int (bI (ctl bd f t))) (congrArg Value.int (by unfold ctl; first | (rw [decide_eq_true c51, decide_eq_true c68]; rfl) | (rw [decide_eq_true c51, decide_eq_false c68]; rfl) | (rw [decide_eq_false c51]; rfl))) ?_
        exact hj_76 ls (lv_sub hl [0, 1, 2, 3, 4, 5, 6, 7, 8] rfl)
