theorem dL_law_0 : decode cL_law 0 = .ok (.new 9, 3) := by decide +kernel
theorem dL_law_3 : decode cL_law 3 = .ok (.dup, 1) := by decide +kernel
theorem dL_law_4 : decode cL_law 4 = .ok (.invokespecial 62, 3) := by decide +kernel
theorem dL_law_7 : decode cL_law 7 = .ok (.astore_n 1, 1) := by decide +kernel
theorem dL_law_8 : decode cL_law 8 = .ok (.bipush 60, 2) := by decide +kernel
theorem dL_law_10 : decode cL_law 10 = .ok (.newarray .int, 2) := by decide +kernel
theorem dL_law_12 : decode cL_law 12 = .ok (.astore_n 2, 1) := by decide +kernel
theorem dL_law_13 : decode cL_law 13 = .ok (.bipush 60, 2) := by decide +kernel
theorem dL_law_15 : decode cL_law 15 = .ok (.newarray .int, 2) := by decide +kernel
theorem dL_law_17 : decode cL_law 17 = .ok (.astore_n 3, 1) := by decide +kernel
theorem dL_law_18 : decode cL_law 18 = .ok (.bipush 60, 2) := by decide +kernel
theorem dL_law_20 : decode cL_law 20 = .ok (.newarray .int, 2) := by decide +kernel
theorem dL_law_22 : decode cL_law 22 = .ok (.astore 4, 2) := by decide +kernel
theorem dL_law_24 : decode cL_law 24 = .ok (.aload_n 1, 1) := by decide +kernel
theorem dL_law_25 : decode cL_law 25 = .ok (.iconst 1, 1) := by decide +kernel
theorem dL_law_26 : decode cL_law 26 = .ok (.aload_n 0, 1) := by decide +kernel
theorem dL_law_27 : decode cL_law 27 = .ok (.iconst 0, 1) := by decide +kernel
theorem dL_law_28 : decode cL_law 28 = .ok (.invokestatic 63, 3) := by decide +kernel
theorem dL_law_31 : decode cL_law 31 = .ok (.iconst 5, 1) := by decide +kernel
theorem dL_law_32 : decode cL_law 32 = .ok (.irem, 1) := by decide +kernel
theorem dL_law_33 : decode cL_law 33 = .ok (.iadd, 1) := by decide +kernel
theorem dL_law_34 : decode cL_law 34 = .ok (.invokestatic 59, 3) := by decide +kernel
theorem dL_law_37 : decode cL_law 37 = .ok (.iconst 3, 1) := by decide +kernel
theorem dL_law_38 : decode cL_law 38 = .ok (.if_icmp .ne 7, 3) := by decide +kernel
theorem dL_law_41 : decode cL_law 41 = .ok (.iconst 1, 1) := by decide +kernel
theorem dL_law_42 : decode cL_law 42 = .ok (.goto 4, 3) := by decide +kernel
theorem dL_law_45 : decode cL_law 45 = .ok (.iconst 0, 1) := by decide +kernel
theorem dL_law_46 : decode cL_law 46 = .ok (.istore 5, 2) := by decide +kernel
theorem dL_law_48 : decode cL_law 48 = .ok (.iconst 0, 1) := by decide +kernel
theorem dL_law_49 : decode cL_law 49 = .ok (.istore 6, 2) := by decide +kernel
theorem dL_law_51 : decode cL_law 51 = .ok (.iload 6, 2) := by decide +kernel
theorem dL_law_53 : decode cL_law 53 = .ok (.bipush 60, 2) := by decide +kernel
theorem dL_law_55 : decode cL_law 55 = .ok (.if_icmp .ge 112, 3) := by decide +kernel
theorem dL_law_58 : decode cL_law 58 = .ok (.iload 5, 2) := by decide +kernel
theorem dL_law_60 : decode cL_law 60 = .ok (.ifCond .eq 107, 3) := by decide +kernel
theorem dL_law_63 : decode cL_law 63 = .ok (.aload_n 2, 1) := by decide +kernel
theorem dL_law_64 : decode cL_law 64 = .ok (.iload 6, 2) := by decide +kernel
theorem dL_law_66 : decode cL_law 66 = .ok (.sipush 256, 3) := by decide +kernel
theorem dL_law_69 : decode cL_law 69 = .ok (.iload 6, 2) := by decide +kernel
theorem dL_law_71 : decode cL_law 71 = .ok (.imul, 1) := by decide +kernel
theorem dL_law_72 : decode cL_law 72 = .ok (.iload 6, 2) := by decide +kernel
theorem dL_law_74 : decode cL_law 74 = .ok (.iconst 4, 1) := by decide +kernel
theorem dL_law_75 : decode cL_law 75 = .ok (.irem, 1) := by decide +kernel
theorem dL_law_76 : decode cL_law 76 = .ok (.ifCond .ne 15, 3) := by decide +kernel
theorem dL_law_79 : decode cL_law 79 = .ok (.aload_n 0, 1) := by decide +kernel
theorem dL_law_80 : decode cL_law 80 = .ok (.iconst 1, 1) := by decide +kernel
theorem dL_law_81 : decode cL_law 81 = .ok (.invokestatic 63, 3) := by decide +kernel
theorem dL_law_84 : decode cL_law 84 = .ok (.sipush 256, 3) := by decide +kernel
theorem dL_law_87 : decode cL_law 87 = .ok (.irem, 1) := by decide +kernel
theorem dL_law_88 : decode cL_law 88 = .ok (.goto 22, 3) := by decide +kernel
theorem dL_law_91 : decode cL_law 91 = .ok (.aload_n 0, 1) := by decide +kernel
theorem dL_law_92 : decode cL_law 92 = .ok (.iconst 2, 1) := by decide +kernel
theorem dL_law_93 : decode cL_law 93 = .ok (.invokestatic 63, 3) := by decide +kernel
theorem dL_law_96 : decode cL_law 96 = .ok (.sipush 256, 3) := by decide +kernel
theorem dL_law_99 : decode cL_law 99 = .ok (.irem, 1) := by decide +kernel
theorem dL_law_100 : decode cL_law 100 = .ok (.bipush 61, 2) := by decide +kernel
theorem dL_law_102 : decode cL_law 102 = .ok (.iload 6, 2) := by decide +kernel
theorem dL_law_104 : decode cL_law 104 = .ok (.imul, 1) := by decide +kernel
theorem dL_law_105 : decode cL_law 105 = .ok (.iadd, 1) := by decide +kernel
theorem dL_law_106 : decode cL_law 106 = .ok (.sipush 256, 3) := by decide +kernel
theorem dL_law_109 : decode cL_law 109 = .ok (.irem, 1) := by decide +kernel
theorem dL_law_110 : decode cL_law 110 = .ok (.iadd, 1) := by decide +kernel
theorem dL_law_111 : decode cL_law 111 = .ok (.iastore, 1) := by decide +kernel
theorem dL_law_112 : decode cL_law 112 = .ok (.aload_n 0, 1) := by decide +kernel
theorem dL_law_113 : decode cL_law 113 = .ok (.iconst 3, 1) := by decide +kernel
theorem dL_law_114 : decode cL_law 114 = .ok (.iload 6, 2) := by decide +kernel
theorem dL_law_116 : decode cL_law 116 = .ok (.bipush 40, 2) := by decide +kernel
theorem dL_law_118 : decode cL_law 118 = .ok (.irem, 1) := by decide +kernel
theorem dL_law_119 : decode cL_law 119 = .ok (.iadd, 1) := by decide +kernel
theorem dL_law_120 : decode cL_law 120 = .ok (.invokestatic 63, 3) := by decide +kernel
theorem dL_law_123 : decode cL_law 123 = .ok (.iconst 1, 1) := by decide +kernel
theorem dL_law_124 : decode cL_law 124 = .ok (.iload 6, 2) := by decide +kernel
theorem dL_law_126 : decode cL_law 126 = .ok (.bipush 40, 2) := by decide +kernel
theorem dL_law_128 : decode cL_law 128 = .ok (.idiv, 1) := by decide +kernel
theorem dL_law_129 : decode cL_law 129 = .ok (.iadd, 1) := by decide +kernel
theorem dL_law_130 : decode cL_law 130 = .ok (.idiv, 1) := by decide +kernel
theorem dL_law_131 : decode cL_law 131 = .ok (.iconst 3, 1) := by decide +kernel
theorem dL_law_132 : decode cL_law 132 = .ok (.irem, 1) := by decide +kernel
theorem dL_law_133 : decode cL_law 133 = .ok (.ifCond .le 28, 3) := by decide +kernel
theorem dL_law_136 : decode cL_law 136 = .ok (.aload 4, 2) := by decide +kernel
theorem dL_law_138 : decode cL_law 138 = .ok (.iload 6, 2) := by decide +kernel
theorem dL_law_140 : decode cL_law 140 = .ok (.iconst 2, 1) := by decide +kernel
theorem dL_law_141 : decode cL_law 141 = .ok (.iastore, 1) := by decide +kernel
theorem dL_law_142 : decode cL_law 142 = .ok (.aload_n 1, 1) := by decide +kernel
theorem dL_law_143 : decode cL_law 143 = .ok (.aload_n 2, 1) := by decide +kernel
theorem dL_law_144 : decode cL_law 144 = .ok (.iload 6, 2) := by decide +kernel
theorem dL_law_146 : decode cL_law 146 = .ok (.iaload, 1) := by decide +kernel
theorem dL_law_147 : decode cL_law 147 = .ok (.invokestatic 54, 3) := by decide +kernel
theorem dL_law_150 : decode cL_law 150 = .ok (.iconst (-1), 1) := by decide +kernel
theorem dL_law_151 : decode cL_law 151 = .ok (.if_icmp .ne 7, 3) := by decide +kernel
theorem dL_law_154 : decode cL_law 154 = .ok (.iconst 1, 1) := by decide +kernel
theorem dL_law_155 : decode cL_law 155 = .ok (.goto 4, 3) := by decide +kernel
theorem dL_law_158 : decode cL_law 158 = .ok (.iconst 0, 1) := by decide +kernel
theorem dL_law_159 : decode cL_law 159 = .ok (.istore 5, 2) := by decide +kernel
theorem dL_law_161 : decode cL_law 161 = .ok (.iinc 6 1, 3) := by decide +kernel
theorem dL_law_164 : decode cL_law 164 = .ok (.goto (-113), 3) := by decide +kernel
theorem dL_law_167 : decode cL_law 167 = .ok (.iconst 0, 1) := by decide +kernel
theorem dL_law_168 : decode cL_law 168 = .ok (.istore 6, 2) := by decide +kernel
theorem dL_law_170 : decode cL_law 170 = .ok (.iconst 0, 1) := by decide +kernel
theorem dL_law_171 : decode cL_law 171 = .ok (.istore 7, 2) := by decide +kernel
theorem dL_law_173 : decode cL_law 173 = .ok (.iload 5, 2) := by decide +kernel
theorem dL_law_175 : decode cL_law 175 = .ok (.ifCond .eq 18, 3) := by decide +kernel
theorem dL_law_178 : decode cL_law 178 = .ok (.aload_n 1, 1) := by decide +kernel
theorem dL_law_179 : decode cL_law 179 = .ok (.aload_n 2, 1) := by decide +kernel
theorem dL_law_180 : decode cL_law 180 = .ok (.aload_n 3, 1) := by decide +kernel
theorem dL_law_181 : decode cL_law 181 = .ok (.iload 6, 2) := by decide +kernel
theorem dL_law_183 : decode cL_law 183 = .ok (.invokestatic 67, 3) := by decide +kernel
theorem dL_law_186 : decode cL_law 186 = .ok (.ifCond .eq 7, 3) := by decide +kernel
theorem dL_law_189 : decode cL_law 189 = .ok (.iconst 1, 1) := by decide +kernel
theorem dL_law_190 : decode cL_law 190 = .ok (.goto 4, 3) := by decide +kernel
theorem dL_law_193 : decode cL_law 193 = .ok (.iconst 0, 1) := by decide +kernel
theorem dL_law_194 : decode cL_law 194 = .ok (.istore 5, 2) := by decide +kernel
theorem dL_law_196 : decode cL_law 196 = .ok (.aload_n 1, 1) := by decide +kernel
theorem dL_law_197 : decode cL_law 197 = .ok (.iload 6, 2) := by decide +kernel
theorem dL_law_199 : decode cL_law 199 = .ok (.invokestatic 71, 3) := by decide +kernel
theorem dL_law_202 : decode cL_law 202 = .ok (.istore 6, 2) := by decide +kernel
theorem dL_law_204 : decode cL_law 204 = .ok (.iload 5, 2) := by decide +kernel
theorem dL_law_206 : decode cL_law 206 = .ok (.ifCond .eq 20, 3) := by decide +kernel
theorem dL_law_209 : decode cL_law 209 = .ok (.iload 6, 2) := by decide +kernel
theorem dL_law_211 : decode cL_law 211 = .ok (.ifCond .lt 15, 3) := by decide +kernel
theorem dL_law_214 : decode cL_law 214 = .ok (.iload 7, 2) := by decide +kernel
theorem dL_law_216 : decode cL_law 216 = .ok (.sipush 256, 3) := by decide +kernel
theorem dL_law_219 : decode cL_law 219 = .ok (.if_icmp .ge 7, 3) := by decide +kernel
theorem dL_law_222 : decode cL_law 222 = .ok (.iconst 1, 1) := by decide +kernel
theorem dL_law_223 : decode cL_law 223 = .ok (.goto 4, 3) := by decide +kernel
theorem dL_law_226 : decode cL_law 226 = .ok (.iconst 0, 1) := by decide +kernel
theorem dL_law_227 : decode cL_law 227 = .ok (.istore 5, 2) := by decide +kernel
theorem dL_law_229 : decode cL_law 229 = .ok (.iconst 0, 1) := by decide +kernel
theorem dL_law_230 : decode cL_law 230 = .ok (.istore 8, 2) := by decide +kernel
theorem dL_law_232 : decode cL_law 232 = .ok (.iload 8, 2) := by decide +kernel
theorem dL_law_234 : decode cL_law 234 = .ok (.iconst 2, 1) := by decide +kernel
theorem dL_law_235 : decode cL_law 235 = .ok (.if_icmp .ge 54, 3) := by decide +kernel
theorem dL_law_238 : decode cL_law 238 = .ok (.iload 5, 2) := by decide +kernel
theorem dL_law_240 : decode cL_law 240 = .ok (.ifCond .eq 49, 3) := by decide +kernel
theorem dL_law_243 : decode cL_law 243 = .ok (.aload_n 1, 1) := by decide +kernel
theorem dL_law_244 : decode cL_law 244 = .ok (.aload_n 2, 1) := by decide +kernel
theorem dL_law_245 : decode cL_law 245 = .ok (.aload 4, 2) := by decide +kernel
theorem dL_law_247 : decode cL_law 247 = .ok (.aload_n 0, 1) := by decide +kernel
theorem dL_law_248 : decode cL_law 248 = .ok (.iconst 2, 1) := by decide +kernel
theorem dL_law_249 : decode cL_law 249 = .ok (.iload 7, 2) := by decide +kernel
theorem dL_law_251 : decode cL_law 251 = .ok (.imul, 1) := by decide +kernel
theorem dL_law_252 : decode cL_law 252 = .ok (.iload 8, 2) := by decide +kernel
theorem dL_law_254 : decode cL_law 254 = .ok (.iadd, 1) := by decide +kernel
theorem dL_law_255 : decode cL_law 255 = .ok (.bipush 60, 2) := by decide +kernel
theorem dL_law_257 : decode cL_law 257 = .ok (.irem, 1) := by decide +kernel
theorem dL_law_258 : decode cL_law 258 = .ok (.invokestatic 63, 3) := by decide +kernel
theorem dL_law_261 : decode cL_law 261 = .ok (.iconst 1, 1) := by decide +kernel
theorem dL_law_262 : decode cL_law 262 = .ok (.iload 7, 2) := by decide +kernel
theorem dL_law_264 : decode cL_law 264 = .ok (.bipush 30, 2) := by decide +kernel
theorem dL_law_266 : decode cL_law 266 = .ok (.idiv, 1) := by decide +kernel
theorem dL_law_267 : decode cL_law 267 = .ok (.iadd, 1) := by decide +kernel
theorem dL_law_268 : decode cL_law 268 = .ok (.idiv, 1) := by decide +kernel
theorem dL_law_269 : decode cL_law 269 = .ok (.bipush 7, 2) := by decide +kernel
theorem dL_law_271 : decode cL_law 271 = .ok (.iload 7, 2) := by decide +kernel
theorem dL_law_273 : decode cL_law 273 = .ok (.bipush 30, 2) := by decide +kernel
theorem dL_law_275 : decode cL_law 275 = .ok (.idiv, 1) := by decide +kernel
theorem dL_law_276 : decode cL_law 276 = .ok (.imul, 1) := by decide +kernel
theorem dL_law_277 : decode cL_law 277 = .ok (.iadd, 1) := by decide +kernel
theorem dL_law_278 : decode cL_law 278 = .ok (.invokestatic 74, 3) := by decide +kernel
theorem dL_law_281 : decode cL_law 281 = .ok (.istore 5, 2) := by decide +kernel
theorem dL_law_283 : decode cL_law 283 = .ok (.iinc 8 1, 3) := by decide +kernel
theorem dL_law_286 : decode cL_law 286 = .ok (.goto (-54), 3) := by decide +kernel
theorem dL_law_289 : decode cL_law 289 = .ok (.iinc 7 1, 3) := by decide +kernel
theorem dL_law_292 : decode cL_law 292 = .ok (.iload 5, 2) := by decide +kernel
theorem dL_law_294 : decode cL_law 294 = .ok (.ifCond .eq 8, 3) := by decide +kernel
theorem dL_law_297 : decode cL_law 297 = .ok (.iload 6, 2) := by decide +kernel
theorem dL_law_299 : decode cL_law 299 = .ok (.ifCond .gt (-126), 3) := by decide +kernel
theorem dL_law_302 : decode cL_law 302 = .ok (.iconst 0, 1) := by decide +kernel
theorem dL_law_303 : decode cL_law 303 = .ok (.istore 8, 2) := by decide +kernel
theorem dL_law_305 : decode cL_law 305 = .ok (.iload 8, 2) := by decide +kernel
theorem dL_law_307 : decode cL_law 307 = .ok (.bipush 60, 2) := by decide +kernel
theorem dL_law_309 : decode cL_law 309 = .ok (.if_icmp .ge 37, 3) := by decide +kernel
theorem dL_law_312 : decode cL_law 312 = .ok (.iload 5, 2) := by decide +kernel
theorem dL_law_314 : decode cL_law 314 = .ok (.ifCond .eq 32, 3) := by decide +kernel
theorem dL_law_317 : decode cL_law 317 = .ok (.aload 4, 2) := by decide +kernel
theorem dL_law_319 : decode cL_law 319 = .ok (.iload 8, 2) := by decide +kernel
theorem dL_law_321 : decode cL_law 321 = .ok (.iaload, 1) := by decide +kernel
theorem dL_law_322 : decode cL_law 322 = .ok (.iconst 2, 1) := by decide +kernel
theorem dL_law_323 : decode cL_law 323 = .ok (.if_icmp .lt 10, 3) := by decide +kernel
theorem dL_law_326 : decode cL_law 326 = .ok (.aload_n 3, 1) := by decide +kernel
theorem dL_law_327 : decode cL_law 327 = .ok (.iload 8, 2) := by decide +kernel
theorem dL_law_329 : decode cL_law 329 = .ok (.iaload, 1) := by decide +kernel
theorem dL_law_330 : decode cL_law 330 = .ok (.ifCond .le 7, 3) := by decide +kernel
theorem dL_law_333 : decode cL_law 333 = .ok (.iconst 1, 1) := by decide +kernel
theorem dL_law_334 : decode cL_law 334 = .ok (.goto 4, 3) := by decide +kernel
theorem dL_law_337 : decode cL_law 337 = .ok (.iconst 0, 1) := by decide +kernel
theorem dL_law_338 : decode cL_law 338 = .ok (.istore 5, 2) := by decide +kernel
theorem dL_law_340 : decode cL_law 340 = .ok (.iinc 8 1, 3) := by decide +kernel
theorem dL_law_343 : decode cL_law 343 = .ok (.goto (-38), 3) := by decide +kernel
theorem dL_law_346 : decode cL_law 346 = .ok (.iconst 0, 1) := by decide +kernel
theorem dL_law_347 : decode cL_law 347 = .ok (.istore 8, 2) := by decide +kernel
theorem dL_law_349 : decode cL_law 349 = .ok (.iload 8, 2) := by decide +kernel
theorem dL_law_351 : decode cL_law 351 = .ok (.bipush 60, 2) := by decide +kernel
theorem dL_law_353 : decode cL_law 353 = .ok (.if_icmp .ge 14, 3) := by decide +kernel
theorem dL_law_356 : decode cL_law 356 = .ok (.aload_n 3, 1) := by decide +kernel
theorem dL_law_357 : decode cL_law 357 = .ok (.iload 8, 2) := by decide +kernel
theorem dL_law_359 : decode cL_law 359 = .ok (.iconst 0, 1) := by decide +kernel
theorem dL_law_360 : decode cL_law 360 = .ok (.iastore, 1) := by decide +kernel
theorem dL_law_361 : decode cL_law 361 = .ok (.iinc 8 1, 3) := by decide +kernel
theorem dL_law_364 : decode cL_law 364 = .ok (.goto (-15), 3) := by decide +kernel
theorem dL_law_367 : decode cL_law 367 = .ok (.iconst 0, 1) := by decide +kernel
theorem dL_law_368 : decode cL_law 368 = .ok (.istore 7, 2) := by decide +kernel
theorem dL_law_370 : decode cL_law 370 = .ok (.iload 5, 2) := by decide +kernel
theorem dL_law_372 : decode cL_law 372 = .ok (.ifCond .eq 18, 3) := by decide +kernel
theorem dL_law_375 : decode cL_law 375 = .ok (.aload_n 1, 1) := by decide +kernel
theorem dL_law_376 : decode cL_law 376 = .ok (.aload_n 2, 1) := by decide +kernel
theorem dL_law_377 : decode cL_law 377 = .ok (.aload_n 3, 1) := by decide +kernel
theorem dL_law_378 : decode cL_law 378 = .ok (.iload 6, 2) := by decide +kernel
theorem dL_law_380 : decode cL_law 380 = .ok (.invokestatic 67, 3) := by decide +kernel
theorem dL_law_383 : decode cL_law 383 = .ok (.ifCond .eq 7, 3) := by decide +kernel
theorem dL_law_386 : decode cL_law 386 = .ok (.iconst 1, 1) := by decide +kernel
theorem dL_law_387 : decode cL_law 387 = .ok (.goto 4, 3) := by decide +kernel
theorem dL_law_390 : decode cL_law 390 = .ok (.iconst 0, 1) := by decide +kernel
theorem dL_law_391 : decode cL_law 391 = .ok (.istore 5, 2) := by decide +kernel
theorem dL_law_393 : decode cL_law 393 = .ok (.aload_n 1, 1) := by decide +kernel
theorem dL_law_394 : decode cL_law 394 = .ok (.iload 6, 2) := by decide +kernel
theorem dL_law_396 : decode cL_law 396 = .ok (.invokestatic 71, 3) := by decide +kernel
theorem dL_law_399 : decode cL_law 399 = .ok (.istore 6, 2) := by decide +kernel
theorem dL_law_401 : decode cL_law 401 = .ok (.iload 5, 2) := by decide +kernel
theorem dL_law_403 : decode cL_law 403 = .ok (.ifCond .eq 20, 3) := by decide +kernel
theorem dL_law_406 : decode cL_law 406 = .ok (.iload 6, 2) := by decide +kernel
theorem dL_law_408 : decode cL_law 408 = .ok (.ifCond .lt 15, 3) := by decide +kernel
theorem dL_law_411 : decode cL_law 411 = .ok (.iload 7, 2) := by decide +kernel
theorem dL_law_413 : decode cL_law 413 = .ok (.sipush 256, 3) := by decide +kernel
theorem dL_law_416 : decode cL_law 416 = .ok (.if_icmp .ge 7, 3) := by decide +kernel
theorem dL_law_419 : decode cL_law 419 = .ok (.iconst 1, 1) := by decide +kernel
theorem dL_law_420 : decode cL_law 420 = .ok (.goto 4, 3) := by decide +kernel
theorem dL_law_423 : decode cL_law 423 = .ok (.iconst 0, 1) := by decide +kernel
theorem dL_law_424 : decode cL_law 424 = .ok (.istore 5, 2) := by decide +kernel
theorem dL_law_426 : decode cL_law 426 = .ok (.iinc 7 1, 3) := by decide +kernel
theorem dL_law_429 : decode cL_law 429 = .ok (.iload 5, 2) := by decide +kernel
theorem dL_law_431 : decode cL_law 431 = .ok (.ifCond .eq 8, 3) := by decide +kernel
theorem dL_law_434 : decode cL_law 434 = .ok (.iload 6, 2) := by decide +kernel
theorem dL_law_436 : decode cL_law 436 = .ok (.ifCond .gt (-66), 3) := by decide +kernel
theorem dL_law_439 : decode cL_law 439 = .ok (.iconst 0, 1) := by decide +kernel
theorem dL_law_440 : decode cL_law 440 = .ok (.istore 8, 2) := by decide +kernel
theorem dL_law_442 : decode cL_law 442 = .ok (.iload 8, 2) := by decide +kernel
theorem dL_law_444 : decode cL_law 444 = .ok (.bipush 60, 2) := by decide +kernel
theorem dL_law_446 : decode cL_law 446 = .ok (.if_icmp .ge 41, 3) := by decide +kernel
theorem dL_law_449 : decode cL_law 449 = .ok (.iload 5, 2) := by decide +kernel
theorem dL_law_451 : decode cL_law 451 = .ok (.ifCond .eq 36, 3) := by decide +kernel
theorem dL_law_454 : decode cL_law 454 = .ok (.aload_n 3, 1) := by decide +kernel
theorem dL_law_455 : decode cL_law 455 = .ok (.iload 8, 2) := by decide +kernel
theorem dL_law_457 : decode cL_law 457 = .ok (.iaload, 1) := by decide +kernel
theorem dL_law_458 : decode cL_law 458 = .ok (.aload 4, 2) := by decide +kernel
theorem dL_law_460 : decode cL_law 460 = .ok (.iload 8, 2) := by decide +kernel
theorem dL_law_462 : decode cL_law 462 = .ok (.iaload, 1) := by decide +kernel
theorem dL_law_463 : decode cL_law 463 = .ok (.ifCond .ne 7, 3) := by decide +kernel
theorem dL_law_466 : decode cL_law 466 = .ok (.iconst 0, 1) := by decide +kernel
theorem dL_law_467 : decode cL_law 467 = .ok (.goto 4, 3) := by decide +kernel
theorem dL_law_470 : decode cL_law 470 = .ok (.iconst 1, 1) := by decide +kernel
theorem dL_law_471 : decode cL_law 471 = .ok (.if_icmp .ne 7, 3) := by decide +kernel
theorem dL_law_474 : decode cL_law 474 = .ok (.iconst 1, 1) := by decide +kernel
theorem dL_law_475 : decode cL_law 475 = .ok (.goto 4, 3) := by decide +kernel
theorem dL_law_478 : decode cL_law 478 = .ok (.iconst 0, 1) := by decide +kernel
theorem dL_law_479 : decode cL_law 479 = .ok (.istore 5, 2) := by decide +kernel
theorem dL_law_481 : decode cL_law 481 = .ok (.iinc 8 1, 3) := by decide +kernel
theorem dL_law_484 : decode cL_law 484 = .ok (.goto (-42), 3) := by decide +kernel
theorem dL_law_487 : decode cL_law 487 = .ok (.iload 5, 2) := by decide +kernel
theorem dL_law_489 : decode cL_law 489 = .ok (.ifCond .eq 16, 3) := by decide +kernel
theorem dL_law_492 : decode cL_law 492 = .ok (.iload 7, 2) := by decide +kernel
theorem dL_law_494 : decode cL_law 494 = .ok (.aload_n 1, 1) := by decide +kernel
theorem dL_law_495 : decode cL_law 495 = .ok (.invokevirtual 77, 3) := by decide +kernel
theorem dL_law_498 : decode cL_law 498 = .ok (.if_icmp .ne 7, 3) := by decide +kernel
theorem dL_law_501 : decode cL_law 501 = .ok (.iconst 1, 1) := by decide +kernel
theorem dL_law_502 : decode cL_law 502 = .ok (.goto 4, 3) := by decide +kernel
theorem dL_law_505 : decode cL_law 505 = .ok (.iconst 0, 1) := by decide +kernel
theorem dL_law_506 : decode cL_law 506 = .ok (.ireturn, 1) := by decide +kernel

theorem tq_preD {p : Program} {s : State} {m : MethodId} {meth : Method} {c : Code} {own : String} {cc : ByteArray} {nL : Nat} {rt : Option FieldType} {A : Nat → Prop} {H : Heap} {locs : List Loc} {b N : Nat} {xs : Nat → Int32} {av : List Value} (C : tq_C p s m meth c own cc nL rt) (hX : va_X b N xs s s.heap) (hbl : b < s.heap.size) (hbA : ¬ A b) (hS : va_S A s.heap H locs) :
    ∀ U : State, U.heap = H → s.WarmedH U.vm → tq_PX b N xs av av.toArray U :=
  fun U hU hW => ⟨rfl, C.2.2.2.2.2.2.warm hW, by rw [hU]; exact (hX.kept (hS.2.1 b hbl hbA)).moved hW.alike, by rw [hU]; exact Nat.lt_of_lt_of_le hbl hS.1⟩
set_option maxHeartbeats 4000000 in
set_option maxRecDepth 100000 in
theorem law_init {p : Program} (l : Launch) {e : Env} {s : State} {m : MethodId} {args : Array Value} {below : List Frame} {meth : Method} {c : Code} (D : va_G) (cy : ClassId) {A : Nat → Prop} {Q : State → Prop} {b N9 : Nat} {xs : Nat → Int32} {a : Nat → Nat} {pa na ha llo lhi : Nat} (C : tq_C p s m meth c "TwinHashTablesLaw" cL_law 9 (some .boolean)) (hK : va_K D vwCl (tq_ty cy) s) (hA : ∀ q : Nat, s.heap.size ≤ q → A q) (hX : va_X b N9 xs s s.heap) (hbl : b < s.heap.size) (hbA : ¬ A b) (hN : N9 ≤ 260) (key : Nat → Nat) (val : Nat → Nat) (ord : Nat → Nat) (tk : Nat) (cp : Nat) (efi : Nat → Nat) (ela : Nat → Nat) (eco : Nat → Nat) (ene : Nat → Nat) (ldp : Nat → Nat) (dp : Nat) (dbl : Int32) (hlv : Int32) (spl : Int32) (mrg : Int32) (lfi : Nat → Nat) (lla : Nat → Nat) (lco : Nat → Nat) (lne : Nat → Nat) (lev : Nat) (ptr : Nat) (lsp : Int32) (kp : Nat → Nat) (kn : Nat → Nat) (kh : Nat → Nat) (dep : Nat → Nat) (E : List Nat) (L : List Nat) (hC : CR key val ord tk cp efi ela eco ene ldp dp lfi lla lco lne lev ptr llo lhi dep E L) (hH : HI kp kh (stl key val ord tk) 0) (hkn : ∀ q, kn q = 0)
    (H : Heap) (locs : List Loc) (ls : Array Slot) (hP : va_P D vwCl (wQ cy a key val ord tk cp efi ela eco ene ldp dp dbl hlv spl mrg lfi lla lco lne lev ptr llo lhi lsp pa na ha kp kn kh) H) (hD : va_D A (wQ cy a key val ord tk cp efi ela eco ene ldp dp dbl hlv spl mrg lfi lla lco lne lev ptr llo lhi lsp pa na ha kp kn kh)) (hS : va_S A s.heap H locs) (hl : lv_has ls 9 [(0, .ref (b)), (1, .ref (a 0)), (2, .ref (pa)), (3, .ref (na)), (4, .ref (ha)), (5, .int (nI (1)))])
    (kk : ∀ (key : Nat → Nat) (val : Nat → Nat) (ord : Nat → Nat) (tk : Nat) (cp : Nat) (efi : Nat → Nat) (ela : Nat → Nat) (eco : Nat → Nat) (ene : Nat → Nat) (ldp : Nat → Nat) (dp : Nat) (dbl : Int32) (hlv : Int32) (spl : Int32) (mrg : Int32) (lfi : Nat → Nat) (lla : Nat → Nat) (lco : Nat → Nat) (lne : Nat → Nat) (lev : Nat) (ptr : Nat) (lsp : Int32) (kp : Nat → Nat) (kn : Nat → Nat) (kh : Nat → Nat) (dep : Nat → Nat) (E : List Nat) (L : List Nat), (CR key val ord tk cp efi ela eco ene ldp dp lfi lla lco lne lev ptr llo lhi dep E L) → (HI kp kh (stl key val ord tk) 60) → (∀ q, kn q = 0) → ∀ (H : Heap) (locs : List Loc) (ls : Array Slot), va_P D vwCl (wQ cy a key val ord tk cp efi ela eco ene ldp dp dbl hlv spl mrg lfi lla lco lne lev ptr llo lhi lsp pa na ha kp kn kh) H → va_D A (wQ cy a key val ord tk cp efi ela eco ene ldp dp dbl hlv spl mrg lfi lla lco lne lev ptr llo lhi lsp pa na ha kp kn kh) → va_S A s.heap H locs → lv_has ls 9 [(0, .ref (b)), (1, .ref (a 0)), (2, .ref (pa)), (3, .ref (na)), (4, .ref (ha)), (5, .int (nI (1)))] → W p l e room_1 s m args below meth c H locs 21 2609 Q (F0 m 167 ls [])) : W p l e room_1 s m args below meth c H locs 21 2609 Q (F0 m 48 ls []) := by
  obtain ⟨hx, hb, hml, hown, hrt, hlk, hT⟩ := id C
  refine lv_iconst (v := nI 0) hx hb dL_law_48 (by decide) ?_
  refine lv_istore (lv' := [(6, .int (nI (0))), (0, .ref (b)), (1, .ref (a 0)), (2, .ref (pa)), (3, .ref (na)), (4, .ref (ha)), (5, .int (nI (1)))]) hx hb dL_law_49 hl (by decide) rfl (fun ls hl => ?_)
  suffices hlp51 : ∀ (n51 : Nat) (k : Nat) (key1 : Nat → Nat) (val1 : Nat → Nat) (ord1 : Nat → Nat) (tk1 : Nat) (cp1 : Nat) (efi1 : Nat → Nat) (ela1 : Nat → Nat) (eco1 : Nat → Nat) (ene1 : Nat → Nat) (ldp1 : Nat → Nat) (dp1 : Nat) (dbl1 : Int32) (hlv1 : Int32) (spl1 : Int32) (mrg1 : Int32) (lfi1 : Nat → Nat) (lla1 : Nat → Nat) (lco1 : Nat → Nat) (lne1 : Nat → Nat) (lev1 : Nat) (ptr1 : Nat) (lsp1 : Int32) (kp1 : Nat → Nat) (kh1 : Nat → Nat) (dep1 : Nat → Nat) (E1 : List Nat) (L1 : List Nat), 60 - k < n51 → (k ≤ 60) → (CR key1 val1 ord1 tk1 cp1 efi1 ela1 eco1 ene1 ldp1 dp1 lfi1 lla1 lco1 lne1 lev1 ptr1 llo lhi dep1 E1 L1) → (HI kp1 kh1 (stl key1 val1 ord1 tk1) k) → ∀ (H : Heap) (locs : List Loc), va_P D vwCl (wQ cy a key1 val1 ord1 tk1 cp1 efi1 ela1 eco1 ene1 ldp1 dp1 dbl1 hlv1 spl1 mrg1 lfi1 lla1 lco1 lne1 lev1 ptr1 llo lhi lsp1 pa na ha kp1 kn kh1) H → va_D A (wQ cy a key1 val1 ord1 tk1 cp1 efi1 ela1 eco1 ene1 ldp1 dp1 dbl1 hlv1 spl1 mrg1 lfi1 lla1 lco1 lne1 lev1 ptr1 llo lhi lsp1 pa na ha kp1 kn kh1) → va_S A s.heap H locs → ∀ ls : Array Slot, lv_has ls 9 [(0, .ref (b)), (1, .ref (a 0)), (2, .ref (pa)), (3, .ref (na)), (4, .ref (ha)), (5, .int (nI (1))), (6, .int (nI (k)))] → W p l e room_1 s m args below meth c H locs 21 2609 Q (F0 m 51 ls []) from
    hlp51 61 0 key val ord tk cp efi ela eco ene ldp dp dbl hlv spl mrg lfi lla lco lne lev ptr lsp kp kh dep E L (by omega) (by omega) (hC) (hH) _ _ hP hD hS _ (lv_sub hl [1, 2, 3, 4, 5, 6, 0] rfl)
  intro n51
  induction n51 with
  | zero => intro k key1 val1 ord1 tk1 cp1 efi1 ela1 eco1 ene1 ldp1 dp1 dbl1 hlv1 spl1 mrg1 lfi1 lla1 lco1 lne1 lev1 ptr1 lsp1 kp1 kh1 dep1 E1 L1 hf; exact absurd hf (Nat.not_lt_zero _)
  | succ n51 ih51 =>
    intro k key1 val1 ord1 tk1 cp1 efi1 ela1 eco1 ene1 ldp1 dp1 dbl1 hlv1 spl1 mrg1 lfi1 lla1 lco1 lne1 lev1 ptr1 lsp1 kp1 kh1 dep1 E1 L1 hf51 hk hC1 hH1 H locs hP hD hS ls hl
    refine lv_iload hx hb dL_law_51 (lv_at hl 6 rfl) ?_
    refine lv_bipush (v := nI 60) hx hb dL_law_53 (by decide) ?_
    refine tq_icmp_ge (tgt := 167) C (by omega) (by omega) dL_law_55 (by decide) (fun h55 => ?_) (fun h55 => ?_)
    · have hk60 : k = 60 := by omega
      subst hk60
      exact kk key1 val1 ord1 tk1 cp1 efi1 ela1 eco1 ene1 ldp1 dp1 dbl1 hlv1 spl1 mrg1 lfi1 lla1 lco1 lne1 lev1 ptr1 lsp1 kp1 kn kh1 dep1 E1 L1 (hC1) (hH1) (hkn) _ _ _ hP hD hS (lv_sub hl [0, 1, 2, 3, 4, 5] rfl)
    · refine lv_iload hx hb dL_law_58 (lv_at hl 5 rfl) ?_
      refine lv_if_eq (tgt := 167) hx hb dL_law_60 (by decide) (fun h9 => absurd h9 (by decide)) (fun _ => ?_)
      refine lv_aload_n hx hb dL_law_63 rfl (lv_at hl 2 rfl) ?_
      refine lv_iload hx hb dL_law_64 (lv_at hl 6 rfl) ?_
      refine lv_sipush (v := nI 256) hx hb dL_law_66 (by decide) ?_
      refine lv_iload hx hb dL_law_69 (lv_at hl 6 rfl) ?_
      refine tq_imul C dL_law_71 ?_
      refine lv_iload hx hb dL_law_72 (lv_at hl 6 rfl) ?_
      refine lv_iconst (v := nI 4) hx hb dL_law_74 (by decide) ?_
      refine tq_irem C (by omega) (by omega) (by omega) dL_law_75 ?_
      refine tq_if_ne (tgt := 91) C (by omega) dL_law_76 (by decide) (fun h76 => ?_) (fun h76 => ?_)
      · refine lv_aload_n hx hb dL_law_91 rfl (lv_at hl 0 rfl) ?_
        refine lv_iconst (v := nI 2) hx hb dL_law_92 (by decide) ?_
        refine tq_callF (va_runS C.fix (As := [.ref (b), .int (nI (2))]) (rest := [.int (nI (256 * k)), .int (nI (k)), .ref (pa)]) (c_L_drawn l b N9 xs 2 (by omega) hN) (tq_cS (n := 2) C ml_L_63 sm_L_drawn ini_L cd_L_drawn ⟨by decide, by decide, by decide +kernel⟩ ⟨Nat.le_of_ble_eq_true rfl, Nat.le_of_ble_eq_true rfl⟩) ⟨tq_PX.blind, tq_preD C hX hbl hbA hS⟩ rfl rfl hl.1 rfl (lv_room (Nat.le_of_ble_eq_true rfl)) dL_law_93 ⟨Nat.le_of_ble_eq_true rfl, Nat.le_of_ble_eq_true rfl⟩) (fun r93 hr93 => ?_)
        obtain ⟨j93, hj93, rfl⟩ := hr93
        refine lv_sipush (v := nI 256) hx hb dL_law_96 (by decide) ?_
        refine tq_irem C (by omega) (by omega) (by omega) dL_law_99 ?_
        refine lv_bipush (v := nI 61) hx hb dL_law_100 (by decide) ?_
        refine lv_iload hx hb dL_law_102 (lv_at hl 6 rfl) ?_
        refine tq_imul C dL_law_104 ?_
        refine tq_iadd C dL_law_105 ?_
        refine lv_sipush (v := nI 256) hx hb dL_law_106 (by decide) ?_
        refine tq_irem C (by omega) (by omega) (by omega) dL_law_109 ?_
        refine tq_iadd C dL_law_110 ?_
        refine tq_iast (n := 60) (i := k) (v := ((256 * k) + (((j93 % 256) + (61 * k)) % 256))) (f := kp1) C hK hP hD hS 18 0 rfl rfl (by omega) (Nat.le_of_ble_eq_true rfl) dL_law_111 (fun H locs hP hD hS => ?_)
        have hP : va_P D vwCl (wQ cy a key1 val1 ord1 tk1 cp1 efi1 ela1 eco1 ene1 ldp1 dp1 dbl1 hlv1 spl1 mrg1 lfi1 lla1 lco1 lne1 lev1 ptr1 llo lhi lsp1 pa na ha (va_up kp1 k ((256 * k) + (((j93 % 256) + (61 * k)) % 256))) kn kh1) H := hP
        have hD : va_D A (wQ cy a key1 val1 ord1 tk1 cp1 efi1 ela1 eco1 ene1 ldp1 dp1 dbl1 hlv1 spl1 mrg1 lfi1 lla1 lco1 lne1 lev1 ptr1 llo lhi lsp1 pa na ha (va_up kp1 k ((256 * k) + (((j93 % 256) + (61 * k)) % 256))) kn kh1) := hD
        have hH2 : HI (va_up kp1 k ((256 * k) + (((j93 % 256) + (61 * k)) % 256))) kh1 (stl key1 val1 ord1 tk1) (k + 1) := hH1.more (by omega) (by omega)
        have htk : tk1 < 120 := by
          have := hH1.len (stl_sorted hC1.1.2.2.2.1)
          rw [stl_len] at this
          omega
        refine lv_aload_n hx hb dL_law_112 rfl (lv_at hl 0 rfl) ?_
        refine lv_iconst (v := nI 3) hx hb dL_law_113 (by decide) ?_
        refine lv_iload hx hb dL_law_114 (lv_at hl 6 rfl) ?_
        refine lv_bipush (v := nI 40) hx hb dL_law_116 (by decide) ?_
        refine tq_irem C (by omega) (by omega) (by omega) dL_law_118 ?_
        refine tq_iadd C dL_law_119 ?_
        refine tq_callF (va_runS C.fix (As := [.ref (b), .int (nI (3 + (k % 40)))]) (rest := []) (c_L_drawn l b N9 xs (3 + (k % 40)) (by omega) hN) (tq_cS (n := 2) C ml_L_63 sm_L_drawn ini_L cd_L_drawn ⟨by decide, by decide, by decide +kernel⟩ ⟨Nat.le_of_ble_eq_true rfl, Nat.le_of_ble_eq_true rfl⟩) ⟨tq_PX.blind, tq_preD C hX hbl hbA hS⟩ rfl rfl hl.1 rfl (lv_room (Nat.le_of_ble_eq_true rfl)) dL_law_120 ⟨Nat.le_of_ble_eq_true rfl, Nat.le_of_ble_eq_true rfl⟩) (fun r120 hr120 => ?_)
        obtain ⟨j120, hj120, rfl⟩ := hr120
        refine lv_iconst (v := nI 1) hx hb dL_law_123 (by decide) ?_
        refine lv_iload hx hb dL_law_124 (lv_at hl 6 rfl) ?_
        refine lv_bipush (v := nI 40) hx hb dL_law_126 (by decide) ?_
        refine tq_idiv C (by omega) (by omega) (by omega) dL_law_128 ?_
        refine tq_iadd C dL_law_129 ?_
        refine tq_idiv C (by omega) (by omega) (by omega) dL_law_130 ?_
        refine lv_iconst (v := nI 3) hx hb dL_law_131 (by decide) ?_
        refine tq_irem C (by omega) (Nat.lt_of_le_of_lt (Nat.div_le_self _ _) hj120) (by omega) dL_law_132 ?_
        refine tq_if_le (tgt := 161) C (by omega) dL_law_133 (by decide) (fun h133 => ?_) (fun h133 => ?_)
        · refine lv_iinc (v := (nI (k + 1))) (lv' := [(6, .int (nI (k + 1))), (0, .ref (b)), (1, .ref (a 0)), (2, .ref (pa)), (3, .ref (na)), (4, .ref (ha)), (5, .int (nI (1)))]) hx hb dL_law_161 hl (k := 6) rfl (tq_inc1 _) (by decide) rfl (fun ls hl => ?_)
          refine lv_goto (tgt := 51) hx hb dL_law_164 (by decide) ?_
          exact ih51 (k + 1) key1 val1 ord1 tk1 cp1 efi1 ela1 eco1 ene1 ldp1 dp1 dbl1 hlv1 spl1 mrg1 lfi1 lla1 lco1 lne1 lev1 ptr1 lsp1 (va_up kp1 k ((256 * k) + (((j93 % 256) + (61 * k)) % 256))) kh1 dep1 E1 L1 (by omega) (by omega) (hC1) (hH2) _ _ hP hD hS _ (lv_sub hl [1, 2, 3, 4, 5, 6, 0] rfl)
        · refine lv_aload hx hb dL_law_136 (lv_at hl 4 rfl) ?_
          refine lv_iload hx hb dL_law_138 (lv_at hl 6 rfl) ?_
          refine lv_iconst (v := nI 2) hx hb dL_law_140 (by decide) ?_
          refine tq_iast (n := 60) (i := k) (v := 2) (f := kh1) C hK hP hD hS 20 0 rfl rfl (by omega) (Nat.le_of_ble_eq_true rfl) dL_law_141 (fun H locs hP hD hS => ?_)
          have hP : va_P D vwCl (wQ cy a key1 val1 ord1 tk1 cp1 efi1 ela1 eco1 ene1 ldp1 dp1 dbl1 hlv1 spl1 mrg1 lfi1 lla1 lco1 lne1 lev1 ptr1 llo lhi lsp1 pa na ha (va_up kp1 k ((256 * k) + (((j93 % 256) + (61 * k)) % 256))) kn (va_up kh1 k 2)) H := hP
          have hD : va_D A (wQ cy a key1 val1 ord1 tk1 cp1 efi1 ela1 eco1 ene1 ldp1 dp1 dbl1 hlv1 spl1 mrg1 lfi1 lla1 lco1 lne1 lev1 ptr1 llo lhi lsp1 pa na ha (va_up kp1 k ((256 * k) + (((j93 % 256) + (61 * k)) % 256))) kn (va_up kh1 k 2)) := hD
          refine lv_aload_n hx hb dL_law_142 rfl (lv_at hl 1 rfl) ?_
          refine lv_aload_n hx hb dL_law_143 rfl (lv_at hl 2 rfl) ?_
          refine lv_iload hx hb dL_law_144 (lv_at hl 6 rfl) ?_
          refine tq_iald (n := 60) (i := k) (f := (va_up kp1 k ((256 * k) + (((j93 % 256) + (61 * k)) % 256)))) C hK hP 18 0 rfl rfl (by omega) (Nat.le_of_ble_eq_true rfl) dL_law_146 ?_
          refine tq_callI (W3 := fun u => (wQ cy a u.1 u.2.1 u.2.2.1 u.2.2.2.1 cp1 u.2.2.2.2.1 u.2.2.2.2.2.1 u.2.2.2.2.2.2.1 u.2.2.2.2.2.2.2.1 u.2.2.2.2.2.2.2.2.1 u.2.2.2.2.2.2.2.2.2.1 u.2.2.2.2.2.2.2.2.2.2.1 hlv1 u.2.2.2.2.2.2.2.2.2.2.2.1 mrg1 u.2.2.2.2.2.2.2.2.2.2.2.2.1 u.2.2.2.2.2.2.2.2.2.2.2.2.2.1 u.2.2.2.2.2.2.2.2.2.2.2.2.2.2.1 u.2.2.2.2.2.2.2.2.2.2.2.2.2.2.2.1 u.2.2.2.2.2.2.2.2.2.2.2.2.2.2.2.2.1 u.2.2.2.2.2.2.2.2.2.2.2.2.2.2.2.2.2.1 llo lhi u.2.2.2.2.2.2.2.2.2.2.2.2.2.2.2.2.2.2 pa na ha (va_up kp1 k ((256 * k) + (((j93 % 256) + (61 * k)) % 256))) kn (va_up kh1 k 2))) (wr := [18, 19, 20].filterMap (fun i => (wQ cy a key1 val1 ord1 tk1 cp1 efi1 ela1 eco1 ene1 ldp1 dp1 dbl1 hlv1 spl1 mrg1 lfi1 lla1 lco1 lne1 lev1 ptr1 llo lhi lsp1 pa na ha (va_up kp1 k ((256 * k) + (((j93 % 256) + (61 * k)) % 256))) kn (va_up kh1 k 2))[i]?)) (vx_runSW C.fix (As := [.ref (a 0), .int (nI ((va_up kp1 k ((256 * k) + (((j93 % 256) + (61 * k)) % 256))) k))]) (rest := []) ((c_L_put l D cy a key1 val1 ord1 tk1 cp1 efi1 ela1 eco1 ene1 ldp1 dp1 dbl1 hlv1 spl1 mrg1 lfi1 lla1 lco1 lne1 lev1 ptr1 llo lhi lsp1 ((va_up kp1 k ((256 * k) + (((j93 % 256) + (61 * k)) % 256))) k) dep1 E1 L1 hC1 ((hH2.1 k (Nat.lt_succ_self k)).2) htk) H.size) (tq_cW (n := 2) C ml_L_54 sm_L_put ini_L cw_L_put ⟨by decide, by decide, by decide +kernel⟩ ⟨Nat.le_of_ble_eq_true rfl, Nat.le_of_ble_eq_true rfl⟩) ⟨tq_Pc.blind, tq_preC C hK (hP.sub [0, 1, 2, 3, 4, 5, 6, 7, 8, 9, 10, 11, 12, 13, 14, 15, 16, 17] rfl) (hD.sub [0, 1, 2, 3, 4, 5, 6, 7, 8, 9, 10, 11, 12, 13, 14, 15, 16, 17] (by decide) rfl)⟩ rfl rfl hl.1 rfl (lv_room (Nat.le_of_ble_eq_true rfl)) dL_law_147 ⟨Nat.le_of_ble_eq_true rfl, Nat.le_of_ble_eq_true rfl⟩) hP hD hS hA [0, 1, 2, 3, 4, 5, 6, 7, 8, 9, 10, 11, 12, 13, 14, 15, 16, 17] [18, 19, 20] [3, 4, 5, 6, 7, 8, 9, 10, 11, 12, 13, 14, 15, 16, 17, 18, 19, 20, 0, 1, 2] rfl rfl (by decide) (by decide) (by decide) (fun _ => rfl) (fun r147 u147 H locs hr147 hP hD hS => ?_)
          obtain ⟨key2, val2, ord2, tk2, efi2, ela2, eco2, ene2, ldp2, dp2, dbl2, spl2, lfi2, lla2, lco2, lne2, lev2, ptr2, lsp2⟩ := u147
          try dsimp only at hr147
          have hP : va_P D vwCl (wQ cy a key2 val2 ord2 tk2 cp1 efi2 ela2 eco2 ene2 ldp2 dp2 dbl2 hlv1 spl2 mrg1 lfi2 lla2 lco2 lne2 lev2 ptr2 llo lhi lsp2 pa na ha (va_up kp1 k ((256 * k) + (((j93 % 256) + (61 * k)) % 256))) kn (va_up kh1 k 2)) H := hP
          have hD : va_D A (wQ cy a key2 val2 ord2 tk2 cp1 efi2 ela2 eco2 ene2 ldp2 dp2 dbl2 hlv1 spl2 mrg1 lfi2 lla2 lco2 lne2 lev2 ptr2 llo lhi lsp2 pa na ha (va_up kp1 k ((256 * k) + (((j93 % 256) + (61 * k)) % 256))) kn (va_up kh1 k 2)) := hD
          rcases hr147 with ⟨w, hw, -⟩ | ⟨hno, rfl, dep2, E2, L2, hC2, hA2⟩
          · exact absurd (hH1.2.2.1 k (Nat.le_refl k)) ((hH2.in_ (Nat.lt_succ_self k)).mp ⟨w, hw⟩)
          · have hS2 := congrArg (fun A9 : AS => A9.1.1) hA2
            replace hS2 : stl key2 val2 ord2 tk2 = insS (stl key1 val1 ord1 tk1) (va_up kp1 k ((256 * k) + (((j93 % 256) + (61 * k)) % 256)) k) 5 := hS2
            refine lv_iconst (v := (-1)) hx hb dL_law_150 (by decide) ?_
            refine lv_icmp_ne (tgt := 158) hx hb dL_law_151 (by decide) (fun h151 => ?_) (fun h151 => ?_)
            · exact absurd rfl h151
            · refine lv_iconst (v := nI 1) hx hb dL_law_154 (by decide) ?_
              refine lv_goto (tgt := 159) hx hb dL_law_155 (by decide) ?_
              refine lv_istore (lv' := [(5, .int (nI (1))), (0, .ref (b)), (1, .ref (a 0)), (2, .ref (pa)), (3, .ref (na)), (4, .ref (ha)), (6, .int (nI (k)))]) hx hb dL_law_159 hl (by decide) rfl (fun ls hl => ?_)
              refine lv_iinc (v := (nI (k + 1))) (lv' := [(6, .int (nI (k + 1))), (5, .int (nI (1))), (0, .ref (b)), (1, .ref (a 0)), (2, .ref (pa)), (3, .ref (na)), (4, .ref (ha))]) hx hb dL_law_161 hl (k := 6) rfl (tq_inc1 _) (by decide) rfl (fun ls hl => ?_)
              refine lv_goto (tgt := 51) hx hb dL_law_164 (by decide) ?_
              exact ih51 (k + 1) key2 val2 ord2 tk2 cp1 efi2 ela2 eco2 ene2 ldp2 dp2 dbl2 hlv1 spl2 mrg1 lfi2 lla2 lco2 lne2 lev2 ptr2 lsp2 (va_up kp1 k ((256 * k) + (((j93 % 256) + (61 * k)) % 256))) (va_up kh1 k 2) dep2 E2 L2 (by omega) (by omega) (hC2) (by rw [hS2]; exact hH2.add (Nat.lt_succ_self k) (hH1.2.2.1 k (Nat.le_refl k)) (by decide) (by decide)) _ _ hP hD hS _ (lv_sub hl [2, 3, 4, 5, 6, 1, 0] rfl)
      · refine lv_aload_n hx hb dL_law_79 rfl (lv_at hl 0 rfl) ?_
        refine lv_iconst (v := nI 1) hx hb dL_law_80 (by decide) ?_
        refine tq_callF (va_runS C.fix (As := [.ref (b), .int (nI (1))]) (rest := [.int (nI (256 * k)), .int (nI (k)), .ref (pa)]) (c_L_drawn l b N9 xs 1 (by omega) hN) (tq_cS (n := 2) C ml_L_63 sm_L_drawn ini_L cd_L_drawn ⟨by decide, by decide, by decide +kernel⟩ ⟨Nat.le_of_ble_eq_true rfl, Nat.le_of_ble_eq_true rfl⟩) ⟨tq_PX.blind, tq_preD C hX hbl hbA hS⟩ rfl rfl hl.1 rfl (lv_room (Nat.le_of_ble_eq_true rfl)) dL_law_81 ⟨Nat.le_of_ble_eq_true rfl, Nat.le_of_ble_eq_true rfl⟩) (fun r81 hr81 => ?_)
        obtain ⟨j81, hj81, rfl⟩ := hr81
        refine lv_sipush (v := nI 256) hx hb dL_law_84 (by decide) ?_
        refine tq_irem C (by omega) (by omega) (by omega) dL_law_87 ?_
        refine lv_goto (tgt := 110) hx hb dL_law_88 (by decide) ?_
        refine tq_iadd C dL_law_110 ?_
        refine tq_iast (n := 60) (i := k) (v := ((256 * k) + (j81 % 256))) (f := kp1) C hK hP hD hS 18 0 rfl rfl (by omega) (Nat.le_of_ble_eq_true rfl) dL_law_111 (fun H locs hP hD hS => ?_)
        have hP : va_P D vwCl (wQ cy a key1 val1 ord1 tk1 cp1 efi1 ela1 eco1 ene1 ldp1 dp1 dbl1 hlv1 spl1 mrg1 lfi1 lla1 lco1 lne1 lev1 ptr1 llo lhi lsp1 pa na ha (va_up kp1 k ((256 * k) + (j81 % 256))) kn kh1) H := hP
        have hD : va_D A (wQ cy a key1 val1 ord1 tk1 cp1 efi1 ela1 eco1 ene1 ldp1 dp1 dbl1 hlv1 spl1 mrg1 lfi1 lla1 lco1 lne1 lev1 ptr1 llo lhi lsp1 pa na ha (va_up kp1 k ((256 * k) + (j81 % 256))) kn kh1) := hD
        have hH2 : HI (va_up kp1 k ((256 * k) + (j81 % 256))) kh1 (stl key1 val1 ord1 tk1) (k + 1) := hH1.more (by omega) (by omega)
        have htk : tk1 < 120 := by
          have := hH1.len (stl_sorted hC1.1.2.2.2.1)
          rw [stl_len] at this
          omega
        refine lv_aload_n hx hb dL_law_112 rfl (lv_at hl 0 rfl) ?_
        refine lv_iconst (v := nI 3) hx hb dL_law_113 (by decide) ?_
        refine lv_iload hx hb dL_law_114 (lv_at hl 6 rfl) ?_
        refine lv_bipush (v := nI 40) hx hb dL_law_116 (by decide) ?_
        refine tq_irem C (by omega) (by omega) (by omega) dL_law_118 ?_
        refine tq_iadd C dL_law_119 ?_
        refine tq_callF (va_runS C.fix (As := [.ref (b), .int (nI (3 + (k % 40)))]) (rest := []) (c_L_drawn l b N9 xs (3 + (k % 40)) (by omega) hN) (tq_cS (n := 2) C ml_L_63 sm_L_drawn ini_L cd_L_drawn ⟨by decide, by decide, by decide +kernel⟩ ⟨Nat.le_of_ble_eq_true rfl, Nat.le_of_ble_eq_true rfl⟩) ⟨tq_PX.blind, tq_preD C hX hbl hbA hS⟩ rfl rfl hl.1 rfl (lv_room (Nat.le_of_ble_eq_true rfl)) dL_law_120 ⟨Nat.le_of_ble_eq_true rfl, Nat.le_of_ble_eq_true rfl⟩) (fun r120 hr120 => ?_)
        obtain ⟨j120, hj120, rfl⟩ := hr120
        refine lv_iconst (v := nI 1) hx hb dL_law_123 (by decide) ?_
        refine lv_iload hx hb dL_law_124 (lv_at hl 6 rfl) ?_
        refine lv_bipush (v := nI 40) hx hb dL_law_126 (by decide) ?_
        refine tq_idiv C (by omega) (by omega) (by omega) dL_law_128 ?_
        refine tq_iadd C dL_law_129 ?_
        refine tq_idiv C (by omega) (by omega) (by omega) dL_law_130 ?_
        refine lv_iconst (v := nI 3) hx hb dL_law_131 (by decide) ?_
        refine tq_irem C (by omega) (Nat.lt_of_le_of_lt (Nat.div_le_self _ _) hj120) (by omega) dL_law_132 ?_
        refine tq_if_le (tgt := 161) C (by omega) dL_law_133 (by decide) (fun h133 => ?_) (fun h133 => ?_)
        · refine lv_iinc (v := (nI (k + 1))) (lv' := [(6, .int (nI (k + 1))), (0, .ref (b)), (1, .ref (a 0)), (2, .ref (pa)), (3, .ref (na)), (4, .ref (ha)), (5, .int (nI (1)))]) hx hb dL_law_161 hl (k := 6) rfl (tq_inc1 _) (by decide) rfl (fun ls hl => ?_)
          refine lv_goto (tgt := 51) hx hb dL_law_164 (by decide) ?_
          exact ih51 (k + 1) key1 val1 ord1 tk1 cp1 efi1 ela1 eco1 ene1 ldp1 dp1 dbl1 hlv1 spl1 mrg1 lfi1 lla1 lco1 lne1 lev1 ptr1 lsp1 (va_up kp1 k ((256 * k) + (j81 % 256))) kh1 dep1 E1 L1 (by omega) (by omega) (hC1) (hH2) _ _ hP hD hS _ (lv_sub hl [1, 2, 3, 4, 5, 6, 0] rfl)
        · refine lv_aload hx hb dL_law_136 (lv_at hl 4 rfl) ?_
          refine lv_iload hx hb dL_law_138 (lv_at hl 6 rfl) ?_
          refine lv_iconst (v := nI 2) hx hb dL_law_140 (by decide) ?_
          refine tq_iast (n := 60) (i := k) (v := 2) (f := kh1) C hK hP hD hS 20 0 rfl rfl (by omega) (Nat.le_of_ble_eq_true rfl) dL_law_141 (fun H locs hP hD hS => ?_)
          have hP : va_P D vwCl (wQ cy a key1 val1 ord1 tk1 cp1 efi1 ela1 eco1 ene1 ldp1 dp1 dbl1 hlv1 spl1 mrg1 lfi1 lla1 lco1 lne1 lev1 ptr1 llo lhi lsp1 pa na ha (va_up kp1 k ((256 * k) + (j81 % 256))) kn (va_up kh1 k 2)) H := hP
          have hD : va_D A (wQ cy a key1 val1 ord1 tk1 cp1 efi1 ela1 eco1 ene1 ldp1 dp1 dbl1 hlv1 spl1 mrg1 lfi1 lla1 lco1 lne1 lev1 ptr1 llo lhi lsp1 pa na ha (va_up kp1 k ((256 * k) + (j81 % 256))) kn (va_up kh1 k 2)) := hD
          refine lv_aload_n hx hb dL_law_142 rfl (lv_at hl 1 rfl) ?_
          refine lv_aload_n hx hb dL_law_143 rfl (lv_at hl 2 rfl) ?_
          refine lv_iload hx hb dL_law_144 (lv_at hl 6 rfl) ?_
          refine tq_iald (n := 60) (i := k) (f := (va_up kp1 k ((256 * k) + (j81 % 256)))) C hK hP 18 0 rfl rfl (by omega) (Nat.le_of_ble_eq_true rfl) dL_law_146 ?_
          refine tq_callI (W3 := fun u => (wQ cy a u.1 u.2.1 u.2.2.1 u.2.2.2.1 cp1 u.2.2.2.2.1 u.2.2.2.2.2.1 u.2.2.2.2.2.2.1 u.2.2.2.2.2.2.2.1 u.2.2.2.2.2.2.2.2.1 u.2.2.2.2.2.2.2.2.2.1 u.2.2.2.2.2.2.2.2.2.2.1 hlv1 u.2.2.2.2.2.2.2.2.2.2.2.1 mrg1 u.2.2.2.2.2.2.2.2.2.2.2.2.1 u.2.2.2.2.2.2.2.2.2.2.2.2.2.1 u.2.2.2.2.2.2.2.2.2.2.2.2.2.2.1 u.2.2.2.2.2.2.2.2.2.2.2.2.2.2.2.1 u.2.2.2.2.2.2.2.2.2.2.2.2.2.2.2.2.1 u.2.2.2.2.2.2.2.2.2.2.2.2.2.2.2.2.2.1 llo lhi u.2.2.2.2.2.2.2.2.2.2.2.2.2.2.2.2.2.2 pa na ha (va_up kp1 k ((256 * k) + (j81 % 256))) kn (va_up kh1 k 2))) (wr := [18, 19, 20].filterMap (fun i => (wQ cy a key1 val1 ord1 tk1 cp1 efi1 ela1 eco1 ene1 ldp1 dp1 dbl1 hlv1 spl1 mrg1 lfi1 lla1 lco1 lne1 lev1 ptr1 llo lhi lsp1 pa na ha (va_up kp1 k ((256 * k) + (j81 % 256))) kn (va_up kh1 k 2))[i]?)) (vx_runSW C.fix (As := [.ref (a 0), .int (nI ((va_up kp1 k ((256 * k) + (j81 % 256))) k))]) (rest := []) ((c_L_put l D cy a key1 val1 ord1 tk1 cp1 efi1 ela1 eco1 ene1 ldp1 dp1 dbl1 hlv1 spl1 mrg1 lfi1 lla1 lco1 lne1 lev1 ptr1 llo lhi lsp1 ((va_up kp1 k ((256 * k) + (j81 % 256))) k) dep1 E1 L1 hC1 ((hH2.1 k (Nat.lt_succ_self k)).2) htk) H.size) (tq_cW (n := 2) C ml_L_54 sm_L_put ini_L cw_L_put ⟨by decide, by decide, by decide +kernel⟩ ⟨Nat.le_of_ble_eq_true rfl, Nat.le_of_ble_eq_true rfl⟩) ⟨tq_Pc.blind, tq_preC C hK (hP.sub [0, 1, 2, 3, 4, 5, 6, 7, 8, 9, 10, 11, 12, 13, 14, 15, 16, 17] rfl) (hD.sub [0, 1, 2, 3, 4, 5, 6, 7, 8, 9, 10, 11, 12, 13, 14, 15, 16, 17] (by decide) rfl)⟩ rfl rfl hl.1 rfl (lv_room (Nat.le_of_ble_eq_true rfl)) dL_law_147 ⟨Nat.le_of_ble_eq_true rfl, Nat.le_of_ble_eq_true rfl⟩) hP hD hS hA [0, 1, 2, 3, 4, 5, 6, 7, 8, 9, 10, 11, 12, 13, 14, 15, 16, 17] [18, 19, 20] [3, 4, 5, 6, 7, 8, 9, 10, 11, 12, 13, 14, 15, 16, 17, 18, 19, 20, 0, 1, 2] rfl rfl (by decide) (by decide) (by decide) (fun _ => rfl) (fun r147 u147 H locs hr147 hP hD hS => ?_)
          obtain ⟨key2, val2, ord2, tk2, efi2, ela2, eco2, ene2, ldp2, dp2, dbl2, spl2, lfi2, lla2, lco2, lne2, lev2, ptr2, lsp2⟩ := u147
          try dsimp only at hr147
          have hP : va_P D vwCl (wQ cy a key2 val2 ord2 tk2 cp1 efi2 ela2 eco2 ene2 ldp2 dp2 dbl2 hlv1 spl2 mrg1 lfi2 lla2 lco2 lne2 lev2 ptr2 llo lhi lsp2 pa na ha (va_up kp1 k ((256 * k) + (j81 % 256))) kn (va_up kh1 k 2)) H := hP
          have hD : va_D A (wQ cy a key2 val2 ord2 tk2 cp1 efi2 ela2 eco2 ene2 ldp2 dp2 dbl2 hlv1 spl2 mrg1 lfi2 lla2 lco2 lne2 lev2 ptr2 llo lhi lsp2 pa na ha (va_up kp1 k ((256 * k) + (j81 % 256))) kn (va_up kh1 k 2)) := hD
          rcases hr147 with ⟨w, hw, -⟩ | ⟨hno, rfl, dep2, E2, L2, hC2, hA2⟩
          · exact absurd (hH1.2.2.1 k (Nat.le_refl k)) ((hH2.in_ (Nat.lt_succ_self k)).mp ⟨w, hw⟩)
          · have hS2 := congrArg (fun A9 : AS => A9.1.1) hA2
            replace hS2 : stl key2 val2 ord2 tk2 = insS (stl key1 val1 ord1 tk1) (va_up kp1 k ((256 * k) + (j81 % 256)) k) 5 := hS2
            refine lv_iconst (v := (-1)) hx hb dL_law_150 (by decide) ?_
            refine lv_icmp_ne (tgt := 158) hx hb dL_law_151 (by decide) (fun h151 => ?_) (fun h151 => ?_)
            · exact absurd rfl h151
            · refine lv_iconst (v := nI 1) hx hb dL_law_154 (by decide) ?_
              refine lv_goto (tgt := 159) hx hb dL_law_155 (by decide) ?_
              refine lv_istore (lv' := [(5, .int (nI (1))), (0, .ref (b)), (1, .ref (a 0)), (2, .ref (pa)), (3, .ref (na)), (4, .ref (ha)), (6, .int (nI (k)))]) hx hb dL_law_159 hl (by decide) rfl (fun ls hl => ?_)
              refine lv_iinc (v := (nI (k + 1))) (lv' := [(6, .int (nI (k + 1))), (5, .int (nI (1))), (0, .ref (b)), (1, .ref (a 0)), (2, .ref (pa)), (3, .ref (na)), (4, .ref (ha))]) hx hb dL_law_161 hl (k := 6) rfl (tq_inc1 _) (by decide) rfl (fun ls hl => ?_)
              refine lv_goto (tgt := 51) hx hb dL_law_164 (by decide) ?_
              exact ih51 (k + 1) key2 val2 ord2 tk2 cp1 efi2 ela2 eco2 ene2 ldp2 dp2 dbl2 hlv1 spl2 mrg1 lfi2 lla2 lco2 lne2 lev2 ptr2 lsp2 (va_up kp1 k ((256 * k) + (j81 % 256))) (va_up kh1 k 2) dep2 E2 L2 (by omega) (by omega) (hC2) (by rw [hS2]; exact hH2.add (Nat.lt_succ_self k) (hH1.2.2.1 k (Nat.le_refl k)) (by decide) (by decide)) _ _ hP hD hS _ (lv_sub hl [2, 3, 4, 5, 6, 1, 0] rfl)
