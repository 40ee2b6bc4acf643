theorem dL_law_0 : decode cL_law 0 = .ok (.new 8, 3) := by decide +kernel
theorem dL_law_3 : decode cL_law 3 = .ok (.dup, 1) := by decide +kernel
theorem dL_law_4 : decode cL_law 4 = .ok (.invokespecial 74, 3) := by decide +kernel
theorem dL_law_7 : decode cL_law 7 = .ok (.astore_n 1, 1) := by decide +kernel
theorem dL_law_8 : decode cL_law 8 = .ok (.new 75, 3) := by decide +kernel
theorem dL_law_11 : decode cL_law 11 = .ok (.dup, 1) := by decide +kernel
theorem dL_law_12 : decode cL_law 12 = .ok (.invokespecial 77, 3) := by decide +kernel
theorem dL_law_15 : decode cL_law 15 = .ok (.astore_n 2, 1) := by decide +kernel
theorem dL_law_16 : decode cL_law 16 = .ok (.iconst 1, 1) := by decide +kernel
theorem dL_law_17 : decode cL_law 17 = .ok (.newarray .long, 2) := by decide +kernel
theorem dL_law_19 : decode cL_law 19 = .ok (.astore_n 3, 1) := by decide +kernel
theorem dL_law_20 : decode cL_law 20 = .ok (.iconst 0, 1) := by decide +kernel
theorem dL_law_21 : decode cL_law 21 = .ok (.istore 4, 2) := by decide +kernel
theorem dL_law_23 : decode cL_law 23 = .ok (.iload 4, 2) := by decide +kernel
theorem dL_law_25 : decode cL_law 25 = .ok (.aload_n 0, 1) := by decide +kernel
theorem dL_law_26 : decode cL_law 26 = .ok (.arraylength, 1) := by decide +kernel
theorem dL_law_27 : decode cL_law 27 = .ok (.iconst 3, 1) := by decide +kernel
theorem dL_law_28 : decode cL_law 28 = .ok (.isub, 1) := by decide +kernel
theorem dL_law_29 : decode cL_law 29 = .ok (.if_icmp .gt 1472, 3) := by decide +kernel
theorem dL_law_32 : decode cL_law 32 = .ok (.aload_n 0, 1) := by decide +kernel
theorem dL_law_33 : decode cL_law 33 = .ok (.iload 4, 2) := by decide +kernel
theorem dL_law_35 : decode cL_law 35 = .ok (.iaload, 1) := by decide +kernel
theorem dL_law_36 : decode cL_law 36 = .ok (.bipush 63, 2) := by decide +kernel
theorem dL_law_38 : decode cL_law 38 = .ok (.iand, 1) := by decide +kernel
theorem dL_law_39 : decode cL_law 39 = .ok (.tableswitch 1456 0 33 #[149, 217, 273, 329, 385, 398, 411, 467, 535, 591, 604, 617, 673, 729, 797, 853, 909, 922, 978, 991, 1004, 1017, 1030, 1086, 1142, 1155, 1168, 1181, 1237, 1305, 1361, 1374, 1430, 1443], 149) := by decide +kernel
theorem dL_law_188 : decode cL_law 188 = .ok (.aload_n 1, 1) := by decide +kernel
theorem dL_law_189 : decode cL_law 189 = .ok (.aload_n 0, 1) := by decide +kernel
theorem dL_law_190 : decode cL_law 190 = .ok (.iload 4, 2) := by decide +kernel
theorem dL_law_192 : decode cL_law 192 = .ok (.iconst 1, 1) := by decide +kernel
theorem dL_law_193 : decode cL_law 193 = .ok (.iadd, 1) := by decide +kernel
theorem dL_law_194 : decode cL_law 194 = .ok (.iaload, 1) := by decide +kernel
theorem dL_law_195 : decode cL_law 195 = .ok (.aload_n 0, 1) := by decide +kernel
theorem dL_law_196 : decode cL_law 196 = .ok (.iload 4, 2) := by decide +kernel
theorem dL_law_198 : decode cL_law 198 = .ok (.iconst 2, 1) := by decide +kernel
theorem dL_law_199 : decode cL_law 199 = .ok (.iadd, 1) := by decide +kernel
theorem dL_law_200 : decode cL_law 200 = .ok (.iaload, 1) := by decide +kernel
theorem dL_law_201 : decode cL_law 201 = .ok (.aload_n 3, 1) := by decide +kernel
theorem dL_law_202 : decode cL_law 202 = .ok (.invokestatic 78, 3) := by decide +kernel
theorem dL_law_205 : decode cL_law 205 = .ok (.istore 5, 2) := by decide +kernel
theorem dL_law_207 : decode cL_law 207 = .ok (.aload_n 2, 1) := by decide +kernel
theorem dL_law_208 : decode cL_law 208 = .ok (.aload_n 0, 1) := by decide +kernel
theorem dL_law_209 : decode cL_law 209 = .ok (.iload 4, 2) := by decide +kernel
theorem dL_law_211 : decode cL_law 211 = .ok (.iconst 1, 1) := by decide +kernel
theorem dL_law_212 : decode cL_law 212 = .ok (.iadd, 1) := by decide +kernel
theorem dL_law_213 : decode cL_law 213 = .ok (.iaload, 1) := by decide +kernel
theorem dL_law_214 : decode cL_law 214 = .ok (.aload_n 0, 1) := by decide +kernel
theorem dL_law_215 : decode cL_law 215 = .ok (.iload 4, 2) := by decide +kernel
theorem dL_law_217 : decode cL_law 217 = .ok (.iconst 2, 1) := by decide +kernel
theorem dL_law_218 : decode cL_law 218 = .ok (.iadd, 1) := by decide +kernel
theorem dL_law_219 : decode cL_law 219 = .ok (.iaload, 1) := by decide +kernel
theorem dL_law_220 : decode cL_law 220 = .ok (.invokevirtual 83, 3) := by decide +kernel
theorem dL_law_223 : decode cL_law 223 = .ok (.istore 6, 2) := by decide +kernel
theorem dL_law_225 : decode cL_law 225 = .ok (.aload_n 2, 1) := by decide +kernel
theorem dL_law_226 : decode cL_law 226 = .ok (.invokevirtual 84, 3) := by decide +kernel
theorem dL_law_229 : decode cL_law 229 = .ok (.iload 5, 2) := by decide +kernel
theorem dL_law_231 : decode cL_law 231 = .ok (.if_icmp .eq 5, 3) := by decide +kernel
theorem dL_law_234 : decode cL_law 234 = .ok (.iconst 0, 1) := by decide +kernel
theorem dL_law_235 : decode cL_law 235 = .ok (.ireturn, 1) := by decide +kernel
theorem dL_law_236 : decode cL_law 236 = .ok (.iload 5, 2) := by decide +kernel
theorem dL_law_238 : decode cL_law 238 = .ok (.ifCond .ne 15, 3) := by decide +kernel
theorem dL_law_241 : decode cL_law 241 = .ok (.aload_n 3, 1) := by decide +kernel
theorem dL_law_242 : decode cL_law 242 = .ok (.iconst 0, 1) := by decide +kernel
theorem dL_law_243 : decode cL_law 243 = .ok (.laload, 1) := by decide +kernel
theorem dL_law_244 : decode cL_law 244 = .ok (.iload 6, 2) := by decide +kernel
theorem dL_law_246 : decode cL_law 246 = .ok (.i2l, 1) := by decide +kernel
theorem dL_law_247 : decode cL_law 247 = .ok (.lcmp, 1) := by decide +kernel
theorem dL_law_248 : decode cL_law 248 = .ok (.ifCond .eq 5, 3) := by decide +kernel
theorem dL_law_251 : decode cL_law 251 = .ok (.iconst 0, 1) := by decide +kernel
theorem dL_law_252 : decode cL_law 252 = .ok (.ireturn, 1) := by decide +kernel
theorem dL_law_253 : decode cL_law 253 = .ok (.goto 1242, 3) := by decide +kernel
theorem dL_law_256 : decode cL_law 256 = .ok (.aload_n 1, 1) := by decide +kernel
theorem dL_law_257 : decode cL_law 257 = .ok (.aload_n 0, 1) := by decide +kernel
theorem dL_law_258 : decode cL_law 258 = .ok (.iload 4, 2) := by decide +kernel
theorem dL_law_260 : decode cL_law 260 = .ok (.iconst 1, 1) := by decide +kernel
theorem dL_law_261 : decode cL_law 261 = .ok (.iadd, 1) := by decide +kernel
theorem dL_law_262 : decode cL_law 262 = .ok (.iaload, 1) := by decide +kernel
theorem dL_law_263 : decode cL_law 263 = .ok (.aload_n 3, 1) := by decide +kernel
theorem dL_law_264 : decode cL_law 264 = .ok (.invokestatic 88, 3) := by decide +kernel
theorem dL_law_267 : decode cL_law 267 = .ok (.istore 5, 2) := by decide +kernel
theorem dL_law_269 : decode cL_law 269 = .ok (.aload_n 2, 1) := by decide +kernel
theorem dL_law_270 : decode cL_law 270 = .ok (.aload_n 0, 1) := by decide +kernel
theorem dL_law_271 : decode cL_law 271 = .ok (.iload 4, 2) := by decide +kernel
theorem dL_law_273 : decode cL_law 273 = .ok (.iconst 1, 1) := by decide +kernel
theorem dL_law_274 : decode cL_law 274 = .ok (.iadd, 1) := by decide +kernel
theorem dL_law_275 : decode cL_law 275 = .ok (.iaload, 1) := by decide +kernel
theorem dL_law_276 : decode cL_law 276 = .ok (.invokevirtual 91, 3) := by decide +kernel
theorem dL_law_279 : decode cL_law 279 = .ok (.istore 6, 2) := by decide +kernel
theorem dL_law_281 : decode cL_law 281 = .ok (.aload_n 2, 1) := by decide +kernel
theorem dL_law_282 : decode cL_law 282 = .ok (.invokevirtual 84, 3) := by decide +kernel
theorem dL_law_285 : decode cL_law 285 = .ok (.iload 5, 2) := by decide +kernel
theorem dL_law_287 : decode cL_law 287 = .ok (.if_icmp .eq 5, 3) := by decide +kernel
theorem dL_law_290 : decode cL_law 290 = .ok (.iconst 0, 1) := by decide +kernel
theorem dL_law_291 : decode cL_law 291 = .ok (.ireturn, 1) := by decide +kernel
theorem dL_law_292 : decode cL_law 292 = .ok (.iload 5, 2) := by decide +kernel
theorem dL_law_294 : decode cL_law 294 = .ok (.ifCond .ne 15, 3) := by decide +kernel
theorem dL_law_297 : decode cL_law 297 = .ok (.aload_n 3, 1) := by decide +kernel
theorem dL_law_298 : decode cL_law 298 = .ok (.iconst 0, 1) := by decide +kernel
theorem dL_law_299 : decode cL_law 299 = .ok (.laload, 1) := by decide +kernel
theorem dL_law_300 : decode cL_law 300 = .ok (.iload 6, 2) := by decide +kernel
theorem dL_law_302 : decode cL_law 302 = .ok (.i2l, 1) := by decide +kernel
theorem dL_law_303 : decode cL_law 303 = .ok (.lcmp, 1) := by decide +kernel
theorem dL_law_304 : decode cL_law 304 = .ok (.ifCond .eq 5, 3) := by decide +kernel
theorem dL_law_307 : decode cL_law 307 = .ok (.iconst 0, 1) := by decide +kernel
theorem dL_law_308 : decode cL_law 308 = .ok (.ireturn, 1) := by decide +kernel
theorem dL_law_309 : decode cL_law 309 = .ok (.goto 1186, 3) := by decide +kernel
theorem dL_law_312 : decode cL_law 312 = .ok (.aload_n 1, 1) := by decide +kernel
theorem dL_law_313 : decode cL_law 313 = .ok (.aload_n 0, 1) := by decide +kernel
theorem dL_law_314 : decode cL_law 314 = .ok (.iload 4, 2) := by decide +kernel
theorem dL_law_316 : decode cL_law 316 = .ok (.iconst 1, 1) := by decide +kernel
theorem dL_law_317 : decode cL_law 317 = .ok (.iadd, 1) := by decide +kernel
theorem dL_law_318 : decode cL_law 318 = .ok (.iaload, 1) := by decide +kernel
theorem dL_law_319 : decode cL_law 319 = .ok (.aload_n 3, 1) := by decide +kernel
theorem dL_law_320 : decode cL_law 320 = .ok (.invokestatic 92, 3) := by decide +kernel
theorem dL_law_323 : decode cL_law 323 = .ok (.istore 5, 2) := by decide +kernel
theorem dL_law_325 : decode cL_law 325 = .ok (.aload_n 2, 1) := by decide +kernel
theorem dL_law_326 : decode cL_law 326 = .ok (.aload_n 0, 1) := by decide +kernel
theorem dL_law_327 : decode cL_law 327 = .ok (.iload 4, 2) := by decide +kernel
theorem dL_law_329 : decode cL_law 329 = .ok (.iconst 1, 1) := by decide +kernel
theorem dL_law_330 : decode cL_law 330 = .ok (.iadd, 1) := by decide +kernel
theorem dL_law_331 : decode cL_law 331 = .ok (.iaload, 1) := by decide +kernel
theorem dL_law_332 : decode cL_law 332 = .ok (.invokevirtual 94, 3) := by decide +kernel
theorem dL_law_335 : decode cL_law 335 = .ok (.istore 6, 2) := by decide +kernel
theorem dL_law_337 : decode cL_law 337 = .ok (.aload_n 2, 1) := by decide +kernel
theorem dL_law_338 : decode cL_law 338 = .ok (.invokevirtual 84, 3) := by decide +kernel
theorem dL_law_341 : decode cL_law 341 = .ok (.iload 5, 2) := by decide +kernel
theorem dL_law_343 : decode cL_law 343 = .ok (.if_icmp .eq 5, 3) := by decide +kernel
theorem dL_law_346 : decode cL_law 346 = .ok (.iconst 0, 1) := by decide +kernel
theorem dL_law_347 : decode cL_law 347 = .ok (.ireturn, 1) := by decide +kernel
theorem dL_law_348 : decode cL_law 348 = .ok (.iload 5, 2) := by decide +kernel
theorem dL_law_350 : decode cL_law 350 = .ok (.ifCond .ne 15, 3) := by decide +kernel
theorem dL_law_353 : decode cL_law 353 = .ok (.aload_n 3, 1) := by decide +kernel
theorem dL_law_354 : decode cL_law 354 = .ok (.iconst 0, 1) := by decide +kernel
theorem dL_law_355 : decode cL_law 355 = .ok (.laload, 1) := by decide +kernel
theorem dL_law_356 : decode cL_law 356 = .ok (.iload 6, 2) := by decide +kernel
theorem dL_law_358 : decode cL_law 358 = .ok (.i2l, 1) := by decide +kernel
theorem dL_law_359 : decode cL_law 359 = .ok (.lcmp, 1) := by decide +kernel
theorem dL_law_360 : decode cL_law 360 = .ok (.ifCond .eq 5, 3) := by decide +kernel
theorem dL_law_363 : decode cL_law 363 = .ok (.iconst 0, 1) := by decide +kernel
theorem dL_law_364 : decode cL_law 364 = .ok (.ireturn, 1) := by decide +kernel
theorem dL_law_365 : decode cL_law 365 = .ok (.goto 1130, 3) := by decide +kernel
theorem dL_law_368 : decode cL_law 368 = .ok (.aload_n 1, 1) := by decide +kernel
theorem dL_law_369 : decode cL_law 369 = .ok (.aload_n 0, 1) := by decide +kernel
theorem dL_law_370 : decode cL_law 370 = .ok (.iload 4, 2) := by decide +kernel
theorem dL_law_372 : decode cL_law 372 = .ok (.iconst 1, 1) := by decide +kernel
theorem dL_law_373 : decode cL_law 373 = .ok (.iadd, 1) := by decide +kernel
theorem dL_law_374 : decode cL_law 374 = .ok (.iaload, 1) := by decide +kernel
theorem dL_law_375 : decode cL_law 375 = .ok (.aload_n 3, 1) := by decide +kernel
theorem dL_law_376 : decode cL_law 376 = .ok (.invokestatic 95, 3) := by decide +kernel
theorem dL_law_379 : decode cL_law 379 = .ok (.istore 5, 2) := by decide +kernel
theorem dL_law_381 : decode cL_law 381 = .ok (.aload_n 2, 1) := by decide +kernel
theorem dL_law_382 : decode cL_law 382 = .ok (.aload_n 0, 1) := by decide +kernel
theorem dL_law_383 : decode cL_law 383 = .ok (.iload 4, 2) := by decide +kernel
theorem dL_law_385 : decode cL_law 385 = .ok (.iconst 1, 1) := by decide +kernel
theorem dL_law_386 : decode cL_law 386 = .ok (.iadd, 1) := by decide +kernel
theorem dL_law_387 : decode cL_law 387 = .ok (.iaload, 1) := by decide +kernel
theorem dL_law_388 : decode cL_law 388 = .ok (.invokevirtual 97, 3) := by decide +kernel
theorem dL_law_391 : decode cL_law 391 = .ok (.istore 6, 2) := by decide +kernel
theorem dL_law_393 : decode cL_law 393 = .ok (.aload_n 2, 1) := by decide +kernel
theorem dL_law_394 : decode cL_law 394 = .ok (.invokevirtual 84, 3) := by decide +kernel
theorem dL_law_397 : decode cL_law 397 = .ok (.iload 5, 2) := by decide +kernel
theorem dL_law_399 : decode cL_law 399 = .ok (.if_icmp .eq 5, 3) := by decide +kernel
theorem dL_law_402 : decode cL_law 402 = .ok (.iconst 0, 1) := by decide +kernel
theorem dL_law_403 : decode cL_law 403 = .ok (.ireturn, 1) := by decide +kernel
theorem dL_law_404 : decode cL_law 404 = .ok (.iload 5, 2) := by decide +kernel
theorem dL_law_406 : decode cL_law 406 = .ok (.ifCond .ne 15, 3) := by decide +kernel
theorem dL_law_409 : decode cL_law 409 = .ok (.aload_n 3, 1) := by decide +kernel
theorem dL_law_410 : decode cL_law 410 = .ok (.iconst 0, 1) := by decide +kernel
theorem dL_law_411 : decode cL_law 411 = .ok (.laload, 1) := by decide +kernel
theorem dL_law_412 : decode cL_law 412 = .ok (.iload 6, 2) := by decide +kernel
theorem dL_law_414 : decode cL_law 414 = .ok (.i2l, 1) := by decide +kernel
theorem dL_law_415 : decode cL_law 415 = .ok (.lcmp, 1) := by decide +kernel
theorem dL_law_416 : decode cL_law 416 = .ok (.ifCond .eq 5, 3) := by decide +kernel
theorem dL_law_419 : decode cL_law 419 = .ok (.iconst 0, 1) := by decide +kernel
theorem dL_law_420 : decode cL_law 420 = .ok (.ireturn, 1) := by decide +kernel
theorem dL_law_421 : decode cL_law 421 = .ok (.goto 1074, 3) := by decide +kernel
theorem dL_law_424 : decode cL_law 424 = .ok (.aload_n 1, 1) := by decide +kernel
theorem dL_law_425 : decode cL_law 425 = .ok (.invokevirtual 98, 3) := by decide +kernel
theorem dL_law_428 : decode cL_law 428 = .ok (.aload_n 2, 1) := by decide +kernel
theorem dL_law_429 : decode cL_law 429 = .ok (.invokevirtual 101, 3) := by decide +kernel
theorem dL_law_432 : decode cL_law 432 = .ok (.if_icmp .eq 1063, 3) := by decide +kernel
theorem dL_law_435 : decode cL_law 435 = .ok (.iconst 0, 1) := by decide +kernel
theorem dL_law_436 : decode cL_law 436 = .ok (.ireturn, 1) := by decide +kernel
theorem dL_law_437 : decode cL_law 437 = .ok (.aload_n 1, 1) := by decide +kernel
theorem dL_law_438 : decode cL_law 438 = .ok (.invokevirtual 102, 3) := by decide +kernel
theorem dL_law_441 : decode cL_law 441 = .ok (.aload_n 2, 1) := by decide +kernel
theorem dL_law_442 : decode cL_law 442 = .ok (.invokevirtual 105, 3) := by decide +kernel
theorem dL_law_445 : decode cL_law 445 = .ok (.if_icmp .eq 1050, 3) := by decide +kernel
theorem dL_law_448 : decode cL_law 448 = .ok (.iconst 0, 1) := by decide +kernel
theorem dL_law_449 : decode cL_law 449 = .ok (.ireturn, 1) := by decide +kernel
theorem dL_law_450 : decode cL_law 450 = .ok (.aload_n 1, 1) := by decide +kernel
theorem dL_law_451 : decode cL_law 451 = .ok (.aload_n 0, 1) := by decide +kernel
theorem dL_law_452 : decode cL_law 452 = .ok (.iload 4, 2) := by decide +kernel
theorem dL_law_454 : decode cL_law 454 = .ok (.iconst 1, 1) := by decide +kernel
theorem dL_law_455 : decode cL_law 455 = .ok (.iadd, 1) := by decide +kernel
theorem dL_law_456 : decode cL_law 456 = .ok (.iaload, 1) := by decide +kernel
theorem dL_law_457 : decode cL_law 457 = .ok (.aload_n 3, 1) := by decide +kernel
theorem dL_law_458 : decode cL_law 458 = .ok (.invokestatic 106, 3) := by decide +kernel
theorem dL_law_461 : decode cL_law 461 = .ok (.istore 5, 2) := by decide +kernel
theorem dL_law_463 : decode cL_law 463 = .ok (.aload_n 2, 1) := by decide +kernel
theorem dL_law_464 : decode cL_law 464 = .ok (.aload_n 0, 1) := by decide +kernel
theorem dL_law_465 : decode cL_law 465 = .ok (.iload 4, 2) := by decide +kernel
theorem dL_law_467 : decode cL_law 467 = .ok (.iconst 1, 1) := by decide +kernel
theorem dL_law_468 : decode cL_law 468 = .ok (.iadd, 1) := by decide +kernel
theorem dL_law_469 : decode cL_law 469 = .ok (.iaload, 1) := by decide +kernel
theorem dL_law_470 : decode cL_law 470 = .ok (.invokevirtual 108, 3) := by decide +kernel
theorem dL_law_473 : decode cL_law 473 = .ok (.istore 6, 2) := by decide +kernel
theorem dL_law_475 : decode cL_law 475 = .ok (.aload_n 2, 1) := by decide +kernel
theorem dL_law_476 : decode cL_law 476 = .ok (.invokevirtual 84, 3) := by decide +kernel
theorem dL_law_479 : decode cL_law 479 = .ok (.iload 5, 2) := by decide +kernel
theorem dL_law_481 : decode cL_law 481 = .ok (.if_icmp .eq 5, 3) := by decide +kernel
theorem dL_law_484 : decode cL_law 484 = .ok (.iconst 0, 1) := by decide +kernel
theorem dL_law_485 : decode cL_law 485 = .ok (.ireturn, 1) := by decide +kernel
theorem dL_law_486 : decode cL_law 486 = .ok (.iload 5, 2) := by decide +kernel
theorem dL_law_488 : decode cL_law 488 = .ok (.ifCond .ne 15, 3) := by decide +kernel
theorem dL_law_491 : decode cL_law 491 = .ok (.aload_n 3, 1) := by decide +kernel
theorem dL_law_492 : decode cL_law 492 = .ok (.iconst 0, 1) := by decide +kernel
theorem dL_law_493 : decode cL_law 493 = .ok (.laload, 1) := by decide +kernel
theorem dL_law_494 : decode cL_law 494 = .ok (.iload 6, 2) := by decide +kernel
theorem dL_law_496 : decode cL_law 496 = .ok (.i2l, 1) := by decide +kernel
theorem dL_law_497 : decode cL_law 497 = .ok (.lcmp, 1) := by decide +kernel
theorem dL_law_498 : decode cL_law 498 = .ok (.ifCond .eq 5, 3) := by decide +kernel
theorem dL_law_501 : decode cL_law 501 = .ok (.iconst 0, 1) := by decide +kernel
theorem dL_law_502 : decode cL_law 502 = .ok (.ireturn, 1) := by decide +kernel
theorem dL_law_503 : decode cL_law 503 = .ok (.goto 992, 3) := by decide +kernel
theorem dL_law_506 : decode cL_law 506 = .ok (.aload_n 1, 1) := by decide +kernel
theorem dL_law_507 : decode cL_law 507 = .ok (.aload_n 0, 1) := by decide +kernel
theorem dL_law_508 : decode cL_law 508 = .ok (.iload 4, 2) := by decide +kernel
theorem dL_law_510 : decode cL_law 510 = .ok (.iconst 1, 1) := by decide +kernel
theorem dL_law_511 : decode cL_law 511 = .ok (.iadd, 1) := by decide +kernel
theorem dL_law_512 : decode cL_law 512 = .ok (.iaload, 1) := by decide +kernel
theorem dL_law_513 : decode cL_law 513 = .ok (.aload_n 0, 1) := by decide +kernel
theorem dL_law_514 : decode cL_law 514 = .ok (.iload 4, 2) := by decide +kernel
theorem dL_law_516 : decode cL_law 516 = .ok (.iconst 2, 1) := by decide +kernel
theorem dL_law_517 : decode cL_law 517 = .ok (.iadd, 1) := by decide +kernel
theorem dL_law_518 : decode cL_law 518 = .ok (.iaload, 1) := by decide +kernel
theorem dL_law_519 : decode cL_law 519 = .ok (.aload_n 3, 1) := by decide +kernel
theorem dL_law_520 : decode cL_law 520 = .ok (.invokestatic 109, 3) := by decide +kernel
theorem dL_law_523 : decode cL_law 523 = .ok (.istore 5, 2) := by decide +kernel
theorem dL_law_525 : decode cL_law 525 = .ok (.aload_n 2, 1) := by decide +kernel
theorem dL_law_526 : decode cL_law 526 = .ok (.aload_n 0, 1) := by decide +kernel
theorem dL_law_527 : decode cL_law 527 = .ok (.iload 4, 2) := by decide +kernel
theorem dL_law_529 : decode cL_law 529 = .ok (.iconst 1, 1) := by decide +kernel
theorem dL_law_530 : decode cL_law 530 = .ok (.iadd, 1) := by decide +kernel
theorem dL_law_531 : decode cL_law 531 = .ok (.iaload, 1) := by decide +kernel
theorem dL_law_532 : decode cL_law 532 = .ok (.aload_n 0, 1) := by decide +kernel
theorem dL_law_533 : decode cL_law 533 = .ok (.iload 4, 2) := by decide +kernel
theorem dL_law_535 : decode cL_law 535 = .ok (.iconst 2, 1) := by decide +kernel
theorem dL_law_536 : decode cL_law 536 = .ok (.iadd, 1) := by decide +kernel
theorem dL_law_537 : decode cL_law 537 = .ok (.iaload, 1) := by decide +kernel
theorem dL_law_538 : decode cL_law 538 = .ok (.invokevirtual 111, 3) := by decide +kernel
theorem dL_law_541 : decode cL_law 541 = .ok (.istore 6, 2) := by decide +kernel
theorem dL_law_543 : decode cL_law 543 = .ok (.aload_n 2, 1) := by decide +kernel
theorem dL_law_544 : decode cL_law 544 = .ok (.invokevirtual 84, 3) := by decide +kernel
theorem dL_law_547 : decode cL_law 547 = .ok (.iload 5, 2) := by decide +kernel
theorem dL_law_549 : decode cL_law 549 = .ok (.if_icmp .eq 5, 3) := by decide +kernel
theorem dL_law_552 : decode cL_law 552 = .ok (.iconst 0, 1) := by decide +kernel
theorem dL_law_553 : decode cL_law 553 = .ok (.ireturn, 1) := by decide +kernel
theorem dL_law_554 : decode cL_law 554 = .ok (.iload 5, 2) := by decide +kernel
theorem dL_law_556 : decode cL_law 556 = .ok (.ifCond .ne 15, 3) := by decide +kernel
theorem dL_law_559 : decode cL_law 559 = .ok (.aload_n 3, 1) := by decide +kernel
theorem dL_law_560 : decode cL_law 560 = .ok (.iconst 0, 1) := by decide +kernel
theorem dL_law_561 : decode cL_law 561 = .ok (.laload, 1) := by decide +kernel
theorem dL_law_562 : decode cL_law 562 = .ok (.iload 6, 2) := by decide +kernel
theorem dL_law_564 : decode cL_law 564 = .ok (.i2l, 1) := by decide +kernel
theorem dL_law_565 : decode cL_law 565 = .ok (.lcmp, 1) := by decide +kernel
theorem dL_law_566 : decode cL_law 566 = .ok (.ifCond .eq 5, 3) := by decide +kernel
theorem dL_law_569 : decode cL_law 569 = .ok (.iconst 0, 1) := by decide +kernel
theorem dL_law_570 : decode cL_law 570 = .ok (.ireturn, 1) := by decide +kernel
theorem dL_law_571 : decode cL_law 571 = .ok (.goto 924, 3) := by decide +kernel
theorem dL_law_574 : decode cL_law 574 = .ok (.aload_n 1, 1) := by decide +kernel
theorem dL_law_575 : decode cL_law 575 = .ok (.aload_n 0, 1) := by decide +kernel
theorem dL_law_576 : decode cL_law 576 = .ok (.iload 4, 2) := by decide +kernel
theorem dL_law_578 : decode cL_law 578 = .ok (.iconst 1, 1) := by decide +kernel
theorem dL_law_579 : decode cL_law 579 = .ok (.iadd, 1) := by decide +kernel
theorem dL_law_580 : decode cL_law 580 = .ok (.iaload, 1) := by decide +kernel
theorem dL_law_581 : decode cL_law 581 = .ok (.aload_n 3, 1) := by decide +kernel
theorem dL_law_582 : decode cL_law 582 = .ok (.invokestatic 112, 3) := by decide +kernel
theorem dL_law_585 : decode cL_law 585 = .ok (.istore 5, 2) := by decide +kernel
theorem dL_law_587 : decode cL_law 587 = .ok (.aload_n 2, 1) := by decide +kernel
theorem dL_law_588 : decode cL_law 588 = .ok (.aload_n 0, 1) := by decide +kernel
theorem dL_law_589 : decode cL_law 589 = .ok (.iload 4, 2) := by decide +kernel
theorem dL_law_591 : decode cL_law 591 = .ok (.iconst 1, 1) := by decide +kernel
theorem dL_law_592 : decode cL_law 592 = .ok (.iadd, 1) := by decide +kernel
theorem dL_law_593 : decode cL_law 593 = .ok (.iaload, 1) := by decide +kernel
theorem dL_law_594 : decode cL_law 594 = .ok (.invokevirtual 114, 3) := by decide +kernel
theorem dL_law_597 : decode cL_law 597 = .ok (.istore 6, 2) := by decide +kernel
theorem dL_law_599 : decode cL_law 599 = .ok (.aload_n 2, 1) := by decide +kernel
theorem dL_law_600 : decode cL_law 600 = .ok (.invokevirtual 84, 3) := by decide +kernel
theorem dL_law_603 : decode cL_law 603 = .ok (.iload 5, 2) := by decide +kernel
theorem dL_law_605 : decode cL_law 605 = .ok (.if_icmp .eq 5, 3) := by decide +kernel
theorem dL_law_608 : decode cL_law 608 = .ok (.iconst 0, 1) := by decide +kernel
theorem dL_law_609 : decode cL_law 609 = .ok (.ireturn, 1) := by decide +kernel
theorem dL_law_610 : decode cL_law 610 = .ok (.iload 5, 2) := by decide +kernel
theorem dL_law_612 : decode cL_law 612 = .ok (.ifCond .ne 15, 3) := by decide +kernel
theorem dL_law_615 : decode cL_law 615 = .ok (.aload_n 3, 1) := by decide +kernel
theorem dL_law_616 : decode cL_law 616 = .ok (.iconst 0, 1) := by decide +kernel
theorem dL_law_617 : decode cL_law 617 = .ok (.laload, 1) := by decide +kernel
theorem dL_law_618 : decode cL_law 618 = .ok (.iload 6, 2) := by decide +kernel
theorem dL_law_620 : decode cL_law 620 = .ok (.i2l, 1) := by decide +kernel
theorem dL_law_621 : decode cL_law 621 = .ok (.lcmp, 1) := by decide +kernel
theorem dL_law_622 : decode cL_law 622 = .ok (.ifCond .eq 5, 3) := by decide +kernel
theorem dL_law_625 : decode cL_law 625 = .ok (.iconst 0, 1) := by decide +kernel
theorem dL_law_626 : decode cL_law 626 = .ok (.ireturn, 1) := by decide +kernel
theorem dL_law_627 : decode cL_law 627 = .ok (.goto 868, 3) := by decide +kernel
theorem dL_law_630 : decode cL_law 630 = .ok (.aload_n 1, 1) := by decide +kernel
theorem dL_law_631 : decode cL_law 631 = .ok (.invokevirtual 115, 3) := by decide +kernel
theorem dL_law_634 : decode cL_law 634 = .ok (.aload_n 2, 1) := by decide +kernel
theorem dL_law_635 : decode cL_law 635 = .ok (.invokevirtual 118, 3) := by decide +kernel
theorem dL_law_638 : decode cL_law 638 = .ok (.if_icmp .eq 857, 3) := by decide +kernel
theorem dL_law_641 : decode cL_law 641 = .ok (.iconst 0, 1) := by decide +kernel
theorem dL_law_642 : decode cL_law 642 = .ok (.ireturn, 1) := by decide +kernel
theorem dL_law_643 : decode cL_law 643 = .ok (.aload_n 1, 1) := by decide +kernel
theorem dL_law_644 : decode cL_law 644 = .ok (.invokevirtual 119, 3) := by decide +kernel
theorem dL_law_647 : decode cL_law 647 = .ok (.aload_n 2, 1) := by decide +kernel
theorem dL_law_648 : decode cL_law 648 = .ok (.invokevirtual 122, 3) := by decide +kernel
theorem dL_law_651 : decode cL_law 651 = .ok (.if_icmp .eq 844, 3) := by decide +kernel
theorem dL_law_654 : decode cL_law 654 = .ok (.iconst 0, 1) := by decide +kernel
theorem dL_law_655 : decode cL_law 655 = .ok (.ireturn, 1) := by decide +kernel
theorem dL_law_656 : decode cL_law 656 = .ok (.aload_n 1, 1) := by decide +kernel
theorem dL_law_657 : decode cL_law 657 = .ok (.aload_n 0, 1) := by decide +kernel
theorem dL_law_658 : decode cL_law 658 = .ok (.iload 4, 2) := by decide +kernel
theorem dL_law_660 : decode cL_law 660 = .ok (.iconst 1, 1) := by decide +kernel
theorem dL_law_661 : decode cL_law 661 = .ok (.iadd, 1) := by decide +kernel
theorem dL_law_662 : decode cL_law 662 = .ok (.iaload, 1) := by decide +kernel
theorem dL_law_663 : decode cL_law 663 = .ok (.aload_n 3, 1) := by decide +kernel
theorem dL_law_664 : decode cL_law 664 = .ok (.invokestatic 123, 3) := by decide +kernel
theorem dL_law_667 : decode cL_law 667 = .ok (.istore 5, 2) := by decide +kernel
theorem dL_law_669 : decode cL_law 669 = .ok (.aload_n 2, 1) := by decide +kernel
theorem dL_law_670 : decode cL_law 670 = .ok (.aload_n 0, 1) := by decide +kernel
theorem dL_law_671 : decode cL_law 671 = .ok (.iload 4, 2) := by decide +kernel
theorem dL_law_673 : decode cL_law 673 = .ok (.iconst 1, 1) := by decide +kernel
theorem dL_law_674 : decode cL_law 674 = .ok (.iadd, 1) := by decide +kernel
theorem dL_law_675 : decode cL_law 675 = .ok (.iaload, 1) := by decide +kernel
theorem dL_law_676 : decode cL_law 676 = .ok (.invokevirtual 125, 3) := by decide +kernel
theorem dL_law_679 : decode cL_law 679 = .ok (.istore 6, 2) := by decide +kernel
theorem dL_law_681 : decode cL_law 681 = .ok (.aload_n 2, 1) := by decide +kernel
theorem dL_law_682 : decode cL_law 682 = .ok (.invokevirtual 84, 3) := by decide +kernel
theorem dL_law_685 : decode cL_law 685 = .ok (.iload 5, 2) := by decide +kernel
theorem dL_law_687 : decode cL_law 687 = .ok (.if_icmp .eq 5, 3) := by decide +kernel
theorem dL_law_690 : decode cL_law 690 = .ok (.iconst 0, 1) := by decide +kernel
theorem dL_law_691 : decode cL_law 691 = .ok (.ireturn, 1) := by decide +kernel
theorem dL_law_692 : decode cL_law 692 = .ok (.iload 5, 2) := by decide +kernel
theorem dL_law_694 : decode cL_law 694 = .ok (.ifCond .ne 15, 3) := by decide +kernel
theorem dL_law_697 : decode cL_law 697 = .ok (.aload_n 3, 1) := by decide +kernel
theorem dL_law_698 : decode cL_law 698 = .ok (.iconst 0, 1) := by decide +kernel
theorem dL_law_699 : decode cL_law 699 = .ok (.laload, 1) := by decide +kernel
theorem dL_law_700 : decode cL_law 700 = .ok (.iload 6, 2) := by decide +kernel
theorem dL_law_702 : decode cL_law 702 = .ok (.i2l, 1) := by decide +kernel
theorem dL_law_703 : decode cL_law 703 = .ok (.lcmp, 1) := by decide +kernel
theorem dL_law_704 : decode cL_law 704 = .ok (.ifCond .eq 5, 3) := by decide +kernel
theorem dL_law_707 : decode cL_law 707 = .ok (.iconst 0, 1) := by decide +kernel
theorem dL_law_708 : decode cL_law 708 = .ok (.ireturn, 1) := by decide +kernel
theorem dL_law_709 : decode cL_law 709 = .ok (.goto 786, 3) := by decide +kernel
theorem dL_law_712 : decode cL_law 712 = .ok (.aload_n 1, 1) := by decide +kernel
theorem dL_law_713 : decode cL_law 713 = .ok (.aload_n 0, 1) := by decide +kernel
theorem dL_law_714 : decode cL_law 714 = .ok (.iload 4, 2) := by decide +kernel
theorem dL_law_716 : decode cL_law 716 = .ok (.iconst 1, 1) := by decide +kernel
theorem dL_law_717 : decode cL_law 717 = .ok (.iadd, 1) := by decide +kernel
theorem dL_law_718 : decode cL_law 718 = .ok (.iaload, 1) := by decide +kernel
theorem dL_law_719 : decode cL_law 719 = .ok (.aload_n 3, 1) := by decide +kernel
theorem dL_law_720 : decode cL_law 720 = .ok (.invokestatic 126, 3) := by decide +kernel
theorem dL_law_723 : decode cL_law 723 = .ok (.istore 5, 2) := by decide +kernel
theorem dL_law_725 : decode cL_law 725 = .ok (.aload_n 2, 1) := by decide +kernel
theorem dL_law_726 : decode cL_law 726 = .ok (.aload_n 0, 1) := by decide +kernel
theorem dL_law_727 : decode cL_law 727 = .ok (.iload 4, 2) := by decide +kernel
theorem dL_law_729 : decode cL_law 729 = .ok (.iconst 1, 1) := by decide +kernel
theorem dL_law_730 : decode cL_law 730 = .ok (.iadd, 1) := by decide +kernel
theorem dL_law_731 : decode cL_law 731 = .ok (.iaload, 1) := by decide +kernel
theorem dL_law_732 : decode cL_law 732 = .ok (.invokevirtual 128, 3) := by decide +kernel
theorem dL_law_735 : decode cL_law 735 = .ok (.istore 6, 2) := by decide +kernel
theorem dL_law_737 : decode cL_law 737 = .ok (.aload_n 2, 1) := by decide +kernel
theorem dL_law_738 : decode cL_law 738 = .ok (.invokevirtual 84, 3) := by decide +kernel
theorem dL_law_741 : decode cL_law 741 = .ok (.iload 5, 2) := by decide +kernel
theorem dL_law_743 : decode cL_law 743 = .ok (.if_icmp .eq 5, 3) := by decide +kernel
theorem dL_law_746 : decode cL_law 746 = .ok (.iconst 0, 1) := by decide +kernel
theorem dL_law_747 : decode cL_law 747 = .ok (.ireturn, 1) := by decide +kernel
theorem dL_law_748 : decode cL_law 748 = .ok (.iload 5, 2) := by decide +kernel
theorem dL_law_750 : decode cL_law 750 = .ok (.ifCond .ne 15, 3) := by decide +kernel
theorem dL_law_753 : decode cL_law 753 = .ok (.aload_n 3, 1) := by decide +kernel
theorem dL_law_754 : decode cL_law 754 = .ok (.iconst 0, 1) := by decide +kernel
theorem dL_law_755 : decode cL_law 755 = .ok (.laload, 1) := by decide +kernel
theorem dL_law_756 : decode cL_law 756 = .ok (.iload 6, 2) := by decide +kernel
theorem dL_law_758 : decode cL_law 758 = .ok (.i2l, 1) := by decide +kernel
theorem dL_law_759 : decode cL_law 759 = .ok (.lcmp, 1) := by decide +kernel
theorem dL_law_760 : decode cL_law 760 = .ok (.ifCond .eq 5, 3) := by decide +kernel
theorem dL_law_763 : decode cL_law 763 = .ok (.iconst 0, 1) := by decide +kernel
theorem dL_law_764 : decode cL_law 764 = .ok (.ireturn, 1) := by decide +kernel
theorem dL_law_765 : decode cL_law 765 = .ok (.goto 730, 3) := by decide +kernel
theorem dL_law_768 : decode cL_law 768 = .ok (.aload_n 1, 1) := by decide +kernel
theorem dL_law_769 : decode cL_law 769 = .ok (.aload_n 0, 1) := by decide +kernel
theorem dL_law_770 : decode cL_law 770 = .ok (.iload 4, 2) := by decide +kernel
theorem dL_law_772 : decode cL_law 772 = .ok (.iconst 1, 1) := by decide +kernel
theorem dL_law_773 : decode cL_law 773 = .ok (.iadd, 1) := by decide +kernel
theorem dL_law_774 : decode cL_law 774 = .ok (.iaload, 1) := by decide +kernel
theorem dL_law_775 : decode cL_law 775 = .ok (.aload_n 0, 1) := by decide +kernel
theorem dL_law_776 : decode cL_law 776 = .ok (.iload 4, 2) := by decide +kernel
theorem dL_law_778 : decode cL_law 778 = .ok (.iconst 2, 1) := by decide +kernel
theorem dL_law_779 : decode cL_law 779 = .ok (.iadd, 1) := by decide +kernel
theorem dL_law_780 : decode cL_law 780 = .ok (.iaload, 1) := by decide +kernel
theorem dL_law_781 : decode cL_law 781 = .ok (.aload_n 3, 1) := by decide +kernel
theorem dL_law_782 : decode cL_law 782 = .ok (.invokestatic 129, 3) := by decide +kernel
theorem dL_law_785 : decode cL_law 785 = .ok (.istore 5, 2) := by decide +kernel
theorem dL_law_787 : decode cL_law 787 = .ok (.aload_n 2, 1) := by decide +kernel
theorem dL_law_788 : decode cL_law 788 = .ok (.aload_n 0, 1) := by decide +kernel
theorem dL_law_789 : decode cL_law 789 = .ok (.iload 4, 2) := by decide +kernel
theorem dL_law_791 : decode cL_law 791 = .ok (.iconst 1, 1) := by decide +kernel
theorem dL_law_792 : decode cL_law 792 = .ok (.iadd, 1) := by decide +kernel
theorem dL_law_793 : decode cL_law 793 = .ok (.iaload, 1) := by decide +kernel
theorem dL_law_794 : decode cL_law 794 = .ok (.aload_n 0, 1) := by decide +kernel
theorem dL_law_795 : decode cL_law 795 = .ok (.iload 4, 2) := by decide +kernel
theorem dL_law_797 : decode cL_law 797 = .ok (.iconst 2, 1) := by decide +kernel
theorem dL_law_798 : decode cL_law 798 = .ok (.iadd, 1) := by decide +kernel
theorem dL_law_799 : decode cL_law 799 = .ok (.iaload, 1) := by decide +kernel
theorem dL_law_800 : decode cL_law 800 = .ok (.invokevirtual 131, 3) := by decide +kernel
theorem dL_law_803 : decode cL_law 803 = .ok (.istore 6, 2) := by decide +kernel
theorem dL_law_805 : decode cL_law 805 = .ok (.aload_n 2, 1) := by decide +kernel
theorem dL_law_806 : decode cL_law 806 = .ok (.invokevirtual 84, 3) := by decide +kernel
theorem dL_law_809 : decode cL_law 809 = .ok (.iload 5, 2) := by decide +kernel
theorem dL_law_811 : decode cL_law 811 = .ok (.if_icmp .eq 5, 3) := by decide +kernel
theorem dL_law_814 : decode cL_law 814 = .ok (.iconst 0, 1) := by decide +kernel
theorem dL_law_815 : decode cL_law 815 = .ok (.ireturn, 1) := by decide +kernel
theorem dL_law_816 : decode cL_law 816 = .ok (.iload 5, 2) := by decide +kernel
theorem dL_law_818 : decode cL_law 818 = .ok (.ifCond .ne 15, 3) := by decide +kernel
theorem dL_law_821 : decode cL_law 821 = .ok (.aload_n 3, 1) := by decide +kernel
theorem dL_law_822 : decode cL_law 822 = .ok (.iconst 0, 1) := by decide +kernel
theorem dL_law_823 : decode cL_law 823 = .ok (.laload, 1) := by decide +kernel
theorem dL_law_824 : decode cL_law 824 = .ok (.iload 6, 2) := by decide +kernel
theorem dL_law_826 : decode cL_law 826 = .ok (.i2l, 1) := by decide +kernel
theorem dL_law_827 : decode cL_law 827 = .ok (.lcmp, 1) := by decide +kernel
theorem dL_law_828 : decode cL_law 828 = .ok (.ifCond .eq 5, 3) := by decide +kernel
theorem dL_law_831 : decode cL_law 831 = .ok (.iconst 0, 1) := by decide +kernel
theorem dL_law_832 : decode cL_law 832 = .ok (.ireturn, 1) := by decide +kernel
theorem dL_law_833 : decode cL_law 833 = .ok (.goto 662, 3) := by decide +kernel
theorem dL_law_836 : decode cL_law 836 = .ok (.aload_n 1, 1) := by decide +kernel
theorem dL_law_837 : decode cL_law 837 = .ok (.aload_n 0, 1) := by decide +kernel
theorem dL_law_838 : decode cL_law 838 = .ok (.iload 4, 2) := by decide +kernel
theorem dL_law_840 : decode cL_law 840 = .ok (.iconst 1, 1) := by decide +kernel
theorem dL_law_841 : decode cL_law 841 = .ok (.iadd, 1) := by decide +kernel
theorem dL_law_842 : decode cL_law 842 = .ok (.iaload, 1) := by decide +kernel
theorem dL_law_843 : decode cL_law 843 = .ok (.aload_n 3, 1) := by decide +kernel
theorem dL_law_844 : decode cL_law 844 = .ok (.invokestatic 132, 3) := by decide +kernel
theorem dL_law_847 : decode cL_law 847 = .ok (.istore 5, 2) := by decide +kernel
theorem dL_law_849 : decode cL_law 849 = .ok (.aload_n 2, 1) := by decide +kernel
theorem dL_law_850 : decode cL_law 850 = .ok (.aload_n 0, 1) := by decide +kernel
theorem dL_law_851 : decode cL_law 851 = .ok (.iload 4, 2) := by decide +kernel
theorem dL_law_853 : decode cL_law 853 = .ok (.iconst 1, 1) := by decide +kernel
theorem dL_law_854 : decode cL_law 854 = .ok (.iadd, 1) := by decide +kernel
theorem dL_law_855 : decode cL_law 855 = .ok (.iaload, 1) := by decide +kernel
theorem dL_law_856 : decode cL_law 856 = .ok (.invokevirtual 134, 3) := by decide +kernel
theorem dL_law_859 : decode cL_law 859 = .ok (.istore 6, 2) := by decide +kernel
theorem dL_law_861 : decode cL_law 861 = .ok (.aload_n 2, 1) := by decide +kernel
theorem dL_law_862 : decode cL_law 862 = .ok (.invokevirtual 84, 3) := by decide +kernel
theorem dL_law_865 : decode cL_law 865 = .ok (.iload 5, 2) := by decide +kernel
theorem dL_law_867 : decode cL_law 867 = .ok (.if_icmp .eq 5, 3) := by decide +kernel
theorem dL_law_870 : decode cL_law 870 = .ok (.iconst 0, 1) := by decide +kernel
theorem dL_law_871 : decode cL_law 871 = .ok (.ireturn, 1) := by decide +kernel
theorem dL_law_872 : decode cL_law 872 = .ok (.iload 5, 2) := by decide +kernel
theorem dL_law_874 : decode cL_law 874 = .ok (.ifCond .ne 15, 3) := by decide +kernel
theorem dL_law_877 : decode cL_law 877 = .ok (.aload_n 3, 1) := by decide +kernel
theorem dL_law_878 : decode cL_law 878 = .ok (.iconst 0, 1) := by decide +kernel
theorem dL_law_879 : decode cL_law 879 = .ok (.laload, 1) := by decide +kernel
theorem dL_law_880 : decode cL_law 880 = .ok (.iload 6, 2) := by decide +kernel
theorem dL_law_882 : decode cL_law 882 = .ok (.i2l, 1) := by decide +kernel
theorem dL_law_883 : decode cL_law 883 = .ok (.lcmp, 1) := by decide +kernel
theorem dL_law_884 : decode cL_law 884 = .ok (.ifCond .eq 5, 3) := by decide +kernel
theorem dL_law_887 : decode cL_law 887 = .ok (.iconst 0, 1) := by decide +kernel
theorem dL_law_888 : decode cL_law 888 = .ok (.ireturn, 1) := by decide +kernel
theorem dL_law_889 : decode cL_law 889 = .ok (.goto 606, 3) := by decide +kernel
theorem dL_law_892 : decode cL_law 892 = .ok (.aload_n 1, 1) := by decide +kernel
theorem dL_law_893 : decode cL_law 893 = .ok (.aload_n 0, 1) := by decide +kernel
theorem dL_law_894 : decode cL_law 894 = .ok (.iload 4, 2) := by decide +kernel
theorem dL_law_896 : decode cL_law 896 = .ok (.iconst 1, 1) := by decide +kernel
theorem dL_law_897 : decode cL_law 897 = .ok (.iadd, 1) := by decide +kernel
theorem dL_law_898 : decode cL_law 898 = .ok (.iaload, 1) := by decide +kernel
theorem dL_law_899 : decode cL_law 899 = .ok (.aload_n 3, 1) := by decide +kernel
theorem dL_law_900 : decode cL_law 900 = .ok (.invokestatic 135, 3) := by decide +kernel
theorem dL_law_903 : decode cL_law 903 = .ok (.istore 5, 2) := by decide +kernel
theorem dL_law_905 : decode cL_law 905 = .ok (.aload_n 2, 1) := by decide +kernel
theorem dL_law_906 : decode cL_law 906 = .ok (.aload_n 0, 1) := by decide +kernel
theorem dL_law_907 : decode cL_law 907 = .ok (.iload 4, 2) := by decide +kernel
theorem dL_law_909 : decode cL_law 909 = .ok (.iconst 1, 1) := by decide +kernel
theorem dL_law_910 : decode cL_law 910 = .ok (.iadd, 1) := by decide +kernel
theorem dL_law_911 : decode cL_law 911 = .ok (.iaload, 1) := by decide +kernel
theorem dL_law_912 : decode cL_law 912 = .ok (.invokevirtual 137, 3) := by decide +kernel
theorem dL_law_915 : decode cL_law 915 = .ok (.istore 6, 2) := by decide +kernel
theorem dL_law_917 : decode cL_law 917 = .ok (.aload_n 2, 1) := by decide +kernel
theorem dL_law_918 : decode cL_law 918 = .ok (.invokevirtual 84, 3) := by decide +kernel
theorem dL_law_921 : decode cL_law 921 = .ok (.iload 5, 2) := by decide +kernel
theorem dL_law_923 : decode cL_law 923 = .ok (.if_icmp .eq 5, 3) := by decide +kernel
theorem dL_law_926 : decode cL_law 926 = .ok (.iconst 0, 1) := by decide +kernel
theorem dL_law_927 : decode cL_law 927 = .ok (.ireturn, 1) := by decide +kernel
theorem dL_law_928 : decode cL_law 928 = .ok (.iload 5, 2) := by decide +kernel
theorem dL_law_930 : decode cL_law 930 = .ok (.ifCond .ne 15, 3) := by decide +kernel
theorem dL_law_933 : decode cL_law 933 = .ok (.aload_n 3, 1) := by decide +kernel
theorem dL_law_934 : decode cL_law 934 = .ok (.iconst 0, 1) := by decide +kernel
theorem dL_law_935 : decode cL_law 935 = .ok (.laload, 1) := by decide +kernel
theorem dL_law_936 : decode cL_law 936 = .ok (.iload 6, 2) := by decide +kernel
theorem dL_law_938 : decode cL_law 938 = .ok (.i2l, 1) := by decide +kernel
theorem dL_law_939 : decode cL_law 939 = .ok (.lcmp, 1) := by decide +kernel
theorem dL_law_940 : decode cL_law 940 = .ok (.ifCond .eq 5, 3) := by decide +kernel
theorem dL_law_943 : decode cL_law 943 = .ok (.iconst 0, 1) := by decide +kernel
theorem dL_law_944 : decode cL_law 944 = .ok (.ireturn, 1) := by decide +kernel
theorem dL_law_945 : decode cL_law 945 = .ok (.goto 550, 3) := by decide +kernel
theorem dL_law_948 : decode cL_law 948 = .ok (.aload_n 1, 1) := by decide +kernel
theorem dL_law_949 : decode cL_law 949 = .ok (.invokevirtual 138, 3) := by decide +kernel
theorem dL_law_952 : decode cL_law 952 = .ok (.aload_n 2, 1) := by decide +kernel
theorem dL_law_953 : decode cL_law 953 = .ok (.invokevirtual 141, 3) := by decide +kernel
theorem dL_law_956 : decode cL_law 956 = .ok (.if_icmp .eq 539, 3) := by decide +kernel
theorem dL_law_959 : decode cL_law 959 = .ok (.iconst 0, 1) := by decide +kernel
theorem dL_law_960 : decode cL_law 960 = .ok (.ireturn, 1) := by decide +kernel
theorem dL_law_961 : decode cL_law 961 = .ok (.aload_n 1, 1) := by decide +kernel
theorem dL_law_962 : decode cL_law 962 = .ok (.aload_n 0, 1) := by decide +kernel
theorem dL_law_963 : decode cL_law 963 = .ok (.iload 4, 2) := by decide +kernel
theorem dL_law_965 : decode cL_law 965 = .ok (.iconst 1, 1) := by decide +kernel
theorem dL_law_966 : decode cL_law 966 = .ok (.iadd, 1) := by decide +kernel
theorem dL_law_967 : decode cL_law 967 = .ok (.iaload, 1) := by decide +kernel
theorem dL_law_968 : decode cL_law 968 = .ok (.aload_n 3, 1) := by decide +kernel
theorem dL_law_969 : decode cL_law 969 = .ok (.invokestatic 142, 3) := by decide +kernel
theorem dL_law_972 : decode cL_law 972 = .ok (.istore 5, 2) := by decide +kernel
theorem dL_law_974 : decode cL_law 974 = .ok (.aload_n 2, 1) := by decide +kernel
theorem dL_law_975 : decode cL_law 975 = .ok (.aload_n 0, 1) := by decide +kernel
theorem dL_law_976 : decode cL_law 976 = .ok (.iload 4, 2) := by decide +kernel
theorem dL_law_978 : decode cL_law 978 = .ok (.iconst 1, 1) := by decide +kernel
theorem dL_law_979 : decode cL_law 979 = .ok (.iadd, 1) := by decide +kernel
theorem dL_law_980 : decode cL_law 980 = .ok (.iaload, 1) := by decide +kernel
theorem dL_law_981 : decode cL_law 981 = .ok (.invokevirtual 144, 3) := by decide +kernel
theorem dL_law_984 : decode cL_law 984 = .ok (.istore 6, 2) := by decide +kernel
theorem dL_law_986 : decode cL_law 986 = .ok (.aload_n 2, 1) := by decide +kernel
theorem dL_law_987 : decode cL_law 987 = .ok (.invokevirtual 84, 3) := by decide +kernel
theorem dL_law_990 : decode cL_law 990 = .ok (.iload 5, 2) := by decide +kernel
theorem dL_law_992 : decode cL_law 992 = .ok (.if_icmp .eq 5, 3) := by decide +kernel
theorem dL_law_995 : decode cL_law 995 = .ok (.iconst 0, 1) := by decide +kernel
theorem dL_law_996 : decode cL_law 996 = .ok (.ireturn, 1) := by decide +kernel
theorem dL_law_997 : decode cL_law 997 = .ok (.iload 5, 2) := by decide +kernel
theorem dL_law_999 : decode cL_law 999 = .ok (.ifCond .ne 15, 3) := by decide +kernel
theorem dL_law_1002 : decode cL_law 1002 = .ok (.aload_n 3, 1) := by decide +kernel
theorem dL_law_1003 : decode cL_law 1003 = .ok (.iconst 0, 1) := by decide +kernel
theorem dL_law_1004 : decode cL_law 1004 = .ok (.laload, 1) := by decide +kernel
theorem dL_law_1005 : decode cL_law 1005 = .ok (.iload 6, 2) := by decide +kernel
theorem dL_law_1007 : decode cL_law 1007 = .ok (.i2l, 1) := by decide +kernel
theorem dL_law_1008 : decode cL_law 1008 = .ok (.lcmp, 1) := by decide +kernel
theorem dL_law_1009 : decode cL_law 1009 = .ok (.ifCond .eq 5, 3) := by decide +kernel
theorem dL_law_1012 : decode cL_law 1012 = .ok (.iconst 0, 1) := by decide +kernel
theorem dL_law_1013 : decode cL_law 1013 = .ok (.ireturn, 1) := by decide +kernel
theorem dL_law_1014 : decode cL_law 1014 = .ok (.goto 481, 3) := by decide +kernel
theorem dL_law_1017 : decode cL_law 1017 = .ok (.aload_n 1, 1) := by decide +kernel
theorem dL_law_1018 : decode cL_law 1018 = .ok (.invokevirtual 145, 3) := by decide +kernel
theorem dL_law_1021 : decode cL_law 1021 = .ok (.aload_n 2, 1) := by decide +kernel
theorem dL_law_1022 : decode cL_law 1022 = .ok (.invokevirtual 148, 3) := by decide +kernel
theorem dL_law_1025 : decode cL_law 1025 = .ok (.if_icmp .eq 470, 3) := by decide +kernel
theorem dL_law_1028 : decode cL_law 1028 = .ok (.iconst 0, 1) := by decide +kernel
theorem dL_law_1029 : decode cL_law 1029 = .ok (.ireturn, 1) := by decide +kernel
theorem dL_law_1030 : decode cL_law 1030 = .ok (.aload_n 1, 1) := by decide +kernel
theorem dL_law_1031 : decode cL_law 1031 = .ok (.invokevirtual 149, 3) := by decide +kernel
theorem dL_law_1034 : decode cL_law 1034 = .ok (.aload_n 2, 1) := by decide +kernel
theorem dL_law_1035 : decode cL_law 1035 = .ok (.invokevirtual 152, 3) := by decide +kernel
theorem dL_law_1038 : decode cL_law 1038 = .ok (.if_icmp .eq 457, 3) := by decide +kernel
theorem dL_law_1041 : decode cL_law 1041 = .ok (.iconst 0, 1) := by decide +kernel
theorem dL_law_1042 : decode cL_law 1042 = .ok (.ireturn, 1) := by decide +kernel
theorem dL_law_1043 : decode cL_law 1043 = .ok (.aload_n 1, 1) := by decide +kernel
theorem dL_law_1044 : decode cL_law 1044 = .ok (.invokevirtual 153, 3) := by decide +kernel
theorem dL_law_1047 : decode cL_law 1047 = .ok (.aload_n 2, 1) := by decide +kernel
theorem dL_law_1048 : decode cL_law 1048 = .ok (.invokevirtual 156, 3) := by decide +kernel
theorem dL_law_1051 : decode cL_law 1051 = .ok (.if_icmp .eq 444, 3) := by decide +kernel
theorem dL_law_1054 : decode cL_law 1054 = .ok (.iconst 0, 1) := by decide +kernel
theorem dL_law_1055 : decode cL_law 1055 = .ok (.ireturn, 1) := by decide +kernel
theorem dL_law_1056 : decode cL_law 1056 = .ok (.aload_n 1, 1) := by decide +kernel
theorem dL_law_1057 : decode cL_law 1057 = .ok (.invokevirtual 157, 3) := by decide +kernel
theorem dL_law_1060 : decode cL_law 1060 = .ok (.aload_n 2, 1) := by decide +kernel
theorem dL_law_1061 : decode cL_law 1061 = .ok (.invokevirtual 160, 3) := by decide +kernel
theorem dL_law_1064 : decode cL_law 1064 = .ok (.if_icmp .eq 431, 3) := by decide +kernel
theorem dL_law_1067 : decode cL_law 1067 = .ok (.iconst 0, 1) := by decide +kernel
theorem dL_law_1068 : decode cL_law 1068 = .ok (.ireturn, 1) := by decide +kernel
theorem dL_law_1069 : decode cL_law 1069 = .ok (.aload_n 1, 1) := by decide +kernel
theorem dL_law_1070 : decode cL_law 1070 = .ok (.aload_n 0, 1) := by decide +kernel
theorem dL_law_1071 : decode cL_law 1071 = .ok (.iload 4, 2) := by decide +kernel
theorem dL_law_1073 : decode cL_law 1073 = .ok (.iconst 1, 1) := by decide +kernel
theorem dL_law_1074 : decode cL_law 1074 = .ok (.iadd, 1) := by decide +kernel
theorem dL_law_1075 : decode cL_law 1075 = .ok (.iaload, 1) := by decide +kernel
theorem dL_law_1076 : decode cL_law 1076 = .ok (.aload_n 3, 1) := by decide +kernel
theorem dL_law_1077 : decode cL_law 1077 = .ok (.invokestatic 161, 3) := by decide +kernel
theorem dL_law_1080 : decode cL_law 1080 = .ok (.istore 5, 2) := by decide +kernel
theorem dL_law_1082 : decode cL_law 1082 = .ok (.aload_n 2, 1) := by decide +kernel
theorem dL_law_1083 : decode cL_law 1083 = .ok (.aload_n 0, 1) := by decide +kernel
theorem dL_law_1084 : decode cL_law 1084 = .ok (.iload 4, 2) := by decide +kernel
theorem dL_law_1086 : decode cL_law 1086 = .ok (.iconst 1, 1) := by decide +kernel
theorem dL_law_1087 : decode cL_law 1087 = .ok (.iadd, 1) := by decide +kernel
theorem dL_law_1088 : decode cL_law 1088 = .ok (.iaload, 1) := by decide +kernel
theorem dL_law_1089 : decode cL_law 1089 = .ok (.invokevirtual 163, 3) := by decide +kernel
theorem dL_law_1092 : decode cL_law 1092 = .ok (.istore 6, 2) := by decide +kernel
theorem dL_law_1094 : decode cL_law 1094 = .ok (.aload_n 2, 1) := by decide +kernel
theorem dL_law_1095 : decode cL_law 1095 = .ok (.invokevirtual 84, 3) := by decide +kernel
theorem dL_law_1098 : decode cL_law 1098 = .ok (.iload 5, 2) := by decide +kernel
theorem dL_law_1100 : decode cL_law 1100 = .ok (.if_icmp .eq 5, 3) := by decide +kernel
theorem dL_law_1103 : decode cL_law 1103 = .ok (.iconst 0, 1) := by decide +kernel
theorem dL_law_1104 : decode cL_law 1104 = .ok (.ireturn, 1) := by decide +kernel
theorem dL_law_1105 : decode cL_law 1105 = .ok (.iload 5, 2) := by decide +kernel
theorem dL_law_1107 : decode cL_law 1107 = .ok (.ifCond .ne 15, 3) := by decide +kernel
theorem dL_law_1110 : decode cL_law 1110 = .ok (.aload_n 3, 1) := by decide +kernel
theorem dL_law_1111 : decode cL_law 1111 = .ok (.iconst 0, 1) := by decide +kernel
theorem dL_law_1112 : decode cL_law 1112 = .ok (.laload, 1) := by decide +kernel
theorem dL_law_1113 : decode cL_law 1113 = .ok (.iload 6, 2) := by decide +kernel
theorem dL_law_1115 : decode cL_law 1115 = .ok (.i2l, 1) := by decide +kernel
theorem dL_law_1116 : decode cL_law 1116 = .ok (.lcmp, 1) := by decide +kernel
theorem dL_law_1117 : decode cL_law 1117 = .ok (.ifCond .eq 5, 3) := by decide +kernel
theorem dL_law_1120 : decode cL_law 1120 = .ok (.iconst 0, 1) := by decide +kernel
theorem dL_law_1121 : decode cL_law 1121 = .ok (.ireturn, 1) := by decide +kernel
theorem dL_law_1122 : decode cL_law 1122 = .ok (.goto 373, 3) := by decide +kernel
theorem dL_law_1125 : decode cL_law 1125 = .ok (.aload_n 1, 1) := by decide +kernel
theorem dL_law_1126 : decode cL_law 1126 = .ok (.aload_n 0, 1) := by decide +kernel
theorem dL_law_1127 : decode cL_law 1127 = .ok (.iload 4, 2) := by decide +kernel
theorem dL_law_1129 : decode cL_law 1129 = .ok (.iconst 1, 1) := by decide +kernel
theorem dL_law_1130 : decode cL_law 1130 = .ok (.iadd, 1) := by decide +kernel
theorem dL_law_1131 : decode cL_law 1131 = .ok (.iaload, 1) := by decide +kernel
theorem dL_law_1132 : decode cL_law 1132 = .ok (.aload_n 3, 1) := by decide +kernel
theorem dL_law_1133 : decode cL_law 1133 = .ok (.invokestatic 164, 3) := by decide +kernel
theorem dL_law_1136 : decode cL_law 1136 = .ok (.istore 5, 2) := by decide +kernel
theorem dL_law_1138 : decode cL_law 1138 = .ok (.aload_n 2, 1) := by decide +kernel
theorem dL_law_1139 : decode cL_law 1139 = .ok (.aload_n 0, 1) := by decide +kernel
theorem dL_law_1140 : decode cL_law 1140 = .ok (.iload 4, 2) := by decide +kernel
theorem dL_law_1142 : decode cL_law 1142 = .ok (.iconst 1, 1) := by decide +kernel
theorem dL_law_1143 : decode cL_law 1143 = .ok (.iadd, 1) := by decide +kernel
theorem dL_law_1144 : decode cL_law 1144 = .ok (.iaload, 1) := by decide +kernel
theorem dL_law_1145 : decode cL_law 1145 = .ok (.invokevirtual 166, 3) := by decide +kernel
theorem dL_law_1148 : decode cL_law 1148 = .ok (.istore 6, 2) := by decide +kernel
theorem dL_law_1150 : decode cL_law 1150 = .ok (.aload_n 2, 1) := by decide +kernel
theorem dL_law_1151 : decode cL_law 1151 = .ok (.invokevirtual 84, 3) := by decide +kernel
theorem dL_law_1154 : decode cL_law 1154 = .ok (.iload 5, 2) := by decide +kernel
theorem dL_law_1156 : decode cL_law 1156 = .ok (.if_icmp .eq 5, 3) := by decide +kernel
theorem dL_law_1159 : decode cL_law 1159 = .ok (.iconst 0, 1) := by decide +kernel
theorem dL_law_1160 : decode cL_law 1160 = .ok (.ireturn, 1) := by decide +kernel
theorem dL_law_1161 : decode cL_law 1161 = .ok (.iload 5, 2) := by decide +kernel
theorem dL_law_1163 : decode cL_law 1163 = .ok (.ifCond .ne 15, 3) := by decide +kernel
theorem dL_law_1166 : decode cL_law 1166 = .ok (.aload_n 3, 1) := by decide +kernel
theorem dL_law_1167 : decode cL_law 1167 = .ok (.iconst 0, 1) := by decide +kernel
theorem dL_law_1168 : decode cL_law 1168 = .ok (.laload, 1) := by decide +kernel
theorem dL_law_1169 : decode cL_law 1169 = .ok (.iload 6, 2) := by decide +kernel
theorem dL_law_1171 : decode cL_law 1171 = .ok (.i2l, 1) := by decide +kernel
theorem dL_law_1172 : decode cL_law 1172 = .ok (.lcmp, 1) := by decide +kernel
theorem dL_law_1173 : decode cL_law 1173 = .ok (.ifCond .eq 5, 3) := by decide +kernel
theorem dL_law_1176 : decode cL_law 1176 = .ok (.iconst 0, 1) := by decide +kernel
theorem dL_law_1177 : decode cL_law 1177 = .ok (.ireturn, 1) := by decide +kernel
theorem dL_law_1178 : decode cL_law 1178 = .ok (.goto 317, 3) := by decide +kernel
theorem dL_law_1181 : decode cL_law 1181 = .ok (.aload_n 1, 1) := by decide +kernel
theorem dL_law_1182 : decode cL_law 1182 = .ok (.invokevirtual 167, 3) := by decide +kernel
theorem dL_law_1185 : decode cL_law 1185 = .ok (.aload_n 2, 1) := by decide +kernel
theorem dL_law_1186 : decode cL_law 1186 = .ok (.invokevirtual 170, 3) := by decide +kernel
theorem dL_law_1189 : decode cL_law 1189 = .ok (.if_icmp .eq 306, 3) := by decide +kernel
theorem dL_law_1192 : decode cL_law 1192 = .ok (.iconst 0, 1) := by decide +kernel
theorem dL_law_1193 : decode cL_law 1193 = .ok (.ireturn, 1) := by decide +kernel
theorem dL_law_1194 : decode cL_law 1194 = .ok (.aload_n 1, 1) := by decide +kernel
theorem dL_law_1195 : decode cL_law 1195 = .ok (.invokevirtual 171, 3) := by decide +kernel
theorem dL_law_1198 : decode cL_law 1198 = .ok (.aload_n 2, 1) := by decide +kernel
theorem dL_law_1199 : decode cL_law 1199 = .ok (.invokevirtual 174, 3) := by decide +kernel
theorem dL_law_1202 : decode cL_law 1202 = .ok (.if_icmp .eq 293, 3) := by decide +kernel
theorem dL_law_1205 : decode cL_law 1205 = .ok (.iconst 0, 1) := by decide +kernel
theorem dL_law_1206 : decode cL_law 1206 = .ok (.ireturn, 1) := by decide +kernel
theorem dL_law_1207 : decode cL_law 1207 = .ok (.aload_n 1, 1) := by decide +kernel
theorem dL_law_1208 : decode cL_law 1208 = .ok (.invokevirtual 175, 3) := by decide +kernel
theorem dL_law_1211 : decode cL_law 1211 = .ok (.aload_n 2, 1) := by decide +kernel
theorem dL_law_1212 : decode cL_law 1212 = .ok (.invokevirtual 178, 3) := by decide +kernel
theorem dL_law_1215 : decode cL_law 1215 = .ok (.if_icmp .eq 280, 3) := by decide +kernel
theorem dL_law_1218 : decode cL_law 1218 = .ok (.iconst 0, 1) := by decide +kernel
theorem dL_law_1219 : decode cL_law 1219 = .ok (.ireturn, 1) := by decide +kernel
theorem dL_law_1220 : decode cL_law 1220 = .ok (.aload_n 1, 1) := by decide +kernel
theorem dL_law_1221 : decode cL_law 1221 = .ok (.aload_n 0, 1) := by decide +kernel
theorem dL_law_1222 : decode cL_law 1222 = .ok (.iload 4, 2) := by decide +kernel
theorem dL_law_1224 : decode cL_law 1224 = .ok (.iconst 1, 1) := by decide +kernel
theorem dL_law_1225 : decode cL_law 1225 = .ok (.iadd, 1) := by decide +kernel
theorem dL_law_1226 : decode cL_law 1226 = .ok (.iaload, 1) := by decide +kernel
theorem dL_law_1227 : decode cL_law 1227 = .ok (.aload_n 3, 1) := by decide +kernel
theorem dL_law_1228 : decode cL_law 1228 = .ok (.invokestatic 179, 3) := by decide +kernel
theorem dL_law_1231 : decode cL_law 1231 = .ok (.istore 5, 2) := by decide +kernel
theorem dL_law_1233 : decode cL_law 1233 = .ok (.aload_n 2, 1) := by decide +kernel
theorem dL_law_1234 : decode cL_law 1234 = .ok (.aload_n 0, 1) := by decide +kernel
theorem dL_law_1235 : decode cL_law 1235 = .ok (.iload 4, 2) := by decide +kernel
theorem dL_law_1237 : decode cL_law 1237 = .ok (.iconst 1, 1) := by decide +kernel
theorem dL_law_1238 : decode cL_law 1238 = .ok (.iadd, 1) := by decide +kernel
theorem dL_law_1239 : decode cL_law 1239 = .ok (.iaload, 1) := by decide +kernel
theorem dL_law_1240 : decode cL_law 1240 = .ok (.invokevirtual 181, 3) := by decide +kernel
theorem dL_law_1243 : decode cL_law 1243 = .ok (.istore 6, 2) := by decide +kernel
theorem dL_law_1245 : decode cL_law 1245 = .ok (.aload_n 2, 1) := by decide +kernel
theorem dL_law_1246 : decode cL_law 1246 = .ok (.invokevirtual 84, 3) := by decide +kernel
theorem dL_law_1249 : decode cL_law 1249 = .ok (.iload 5, 2) := by decide +kernel
theorem dL_law_1251 : decode cL_law 1251 = .ok (.if_icmp .eq 5, 3) := by decide +kernel
theorem dL_law_1254 : decode cL_law 1254 = .ok (.iconst 0, 1) := by decide +kernel
theorem dL_law_1255 : decode cL_law 1255 = .ok (.ireturn, 1) := by decide +kernel
theorem dL_law_1256 : decode cL_law 1256 = .ok (.iload 5, 2) := by decide +kernel
theorem dL_law_1258 : decode cL_law 1258 = .ok (.ifCond .ne 15, 3) := by decide +kernel
theorem dL_law_1261 : decode cL_law 1261 = .ok (.aload_n 3, 1) := by decide +kernel
theorem dL_law_1262 : decode cL_law 1262 = .ok (.iconst 0, 1) := by decide +kernel
theorem dL_law_1263 : decode cL_law 1263 = .ok (.laload, 1) := by decide +kernel
theorem dL_law_1264 : decode cL_law 1264 = .ok (.iload 6, 2) := by decide +kernel
theorem dL_law_1266 : decode cL_law 1266 = .ok (.i2l, 1) := by decide +kernel
theorem dL_law_1267 : decode cL_law 1267 = .ok (.lcmp, 1) := by decide +kernel
theorem dL_law_1268 : decode cL_law 1268 = .ok (.ifCond .eq 5, 3) := by decide +kernel
theorem dL_law_1271 : decode cL_law 1271 = .ok (.iconst 0, 1) := by decide +kernel
theorem dL_law_1272 : decode cL_law 1272 = .ok (.ireturn, 1) := by decide +kernel
theorem dL_law_1273 : decode cL_law 1273 = .ok (.goto 222, 3) := by decide +kernel
theorem dL_law_1276 : decode cL_law 1276 = .ok (.aload_n 1, 1) := by decide +kernel
theorem dL_law_1277 : decode cL_law 1277 = .ok (.aload_n 0, 1) := by decide +kernel
theorem dL_law_1278 : decode cL_law 1278 = .ok (.iload 4, 2) := by decide +kernel
theorem dL_law_1280 : decode cL_law 1280 = .ok (.iconst 1, 1) := by decide +kernel
theorem dL_law_1281 : decode cL_law 1281 = .ok (.iadd, 1) := by decide +kernel
theorem dL_law_1282 : decode cL_law 1282 = .ok (.iaload, 1) := by decide +kernel
theorem dL_law_1283 : decode cL_law 1283 = .ok (.aload_n 0, 1) := by decide +kernel
theorem dL_law_1284 : decode cL_law 1284 = .ok (.iload 4, 2) := by decide +kernel
theorem dL_law_1286 : decode cL_law 1286 = .ok (.iconst 2, 1) := by decide +kernel
theorem dL_law_1287 : decode cL_law 1287 = .ok (.iadd, 1) := by decide +kernel
theorem dL_law_1288 : decode cL_law 1288 = .ok (.iaload, 1) := by decide +kernel
theorem dL_law_1289 : decode cL_law 1289 = .ok (.aload_n 3, 1) := by decide +kernel
theorem dL_law_1290 : decode cL_law 1290 = .ok (.invokestatic 182, 3) := by decide +kernel
theorem dL_law_1293 : decode cL_law 1293 = .ok (.istore 5, 2) := by decide +kernel
theorem dL_law_1295 : decode cL_law 1295 = .ok (.aload_n 2, 1) := by decide +kernel
theorem dL_law_1296 : decode cL_law 1296 = .ok (.aload_n 0, 1) := by decide +kernel
theorem dL_law_1297 : decode cL_law 1297 = .ok (.iload 4, 2) := by decide +kernel
theorem dL_law_1299 : decode cL_law 1299 = .ok (.iconst 1, 1) := by decide +kernel
theorem dL_law_1300 : decode cL_law 1300 = .ok (.iadd, 1) := by decide +kernel
theorem dL_law_1301 : decode cL_law 1301 = .ok (.iaload, 1) := by decide +kernel
theorem dL_law_1302 : decode cL_law 1302 = .ok (.aload_n 0, 1) := by decide +kernel
theorem dL_law_1303 : decode cL_law 1303 = .ok (.iload 4, 2) := by decide +kernel
theorem dL_law_1305 : decode cL_law 1305 = .ok (.iconst 2, 1) := by decide +kernel
theorem dL_law_1306 : decode cL_law 1306 = .ok (.iadd, 1) := by decide +kernel
theorem dL_law_1307 : decode cL_law 1307 = .ok (.iaload, 1) := by decide +kernel
theorem dL_law_1308 : decode cL_law 1308 = .ok (.invokevirtual 184, 3) := by decide +kernel
theorem dL_law_1311 : decode cL_law 1311 = .ok (.istore 6, 2) := by decide +kernel
theorem dL_law_1313 : decode cL_law 1313 = .ok (.aload_n 2, 1) := by decide +kernel
theorem dL_law_1314 : decode cL_law 1314 = .ok (.invokevirtual 84, 3) := by decide +kernel
theorem dL_law_1317 : decode cL_law 1317 = .ok (.iload 5, 2) := by decide +kernel
theorem dL_law_1319 : decode cL_law 1319 = .ok (.if_icmp .eq 5, 3) := by decide +kernel
theorem dL_law_1322 : decode cL_law 1322 = .ok (.iconst 0, 1) := by decide +kernel
theorem dL_law_1323 : decode cL_law 1323 = .ok (.ireturn, 1) := by decide +kernel
theorem dL_law_1324 : decode cL_law 1324 = .ok (.iload 5, 2) := by decide +kernel
theorem dL_law_1326 : decode cL_law 1326 = .ok (.ifCond .ne 15, 3) := by decide +kernel
theorem dL_law_1329 : decode cL_law 1329 = .ok (.aload_n 3, 1) := by decide +kernel
theorem dL_law_1330 : decode cL_law 1330 = .ok (.iconst 0, 1) := by decide +kernel
theorem dL_law_1331 : decode cL_law 1331 = .ok (.laload, 1) := by decide +kernel
theorem dL_law_1332 : decode cL_law 1332 = .ok (.iload 6, 2) := by decide +kernel
theorem dL_law_1334 : decode cL_law 1334 = .ok (.i2l, 1) := by decide +kernel
theorem dL_law_1335 : decode cL_law 1335 = .ok (.lcmp, 1) := by decide +kernel
theorem dL_law_1336 : decode cL_law 1336 = .ok (.ifCond .eq 5, 3) := by decide +kernel
theorem dL_law_1339 : decode cL_law 1339 = .ok (.iconst 0, 1) := by decide +kernel
theorem dL_law_1340 : decode cL_law 1340 = .ok (.ireturn, 1) := by decide +kernel
theorem dL_law_1341 : decode cL_law 1341 = .ok (.goto 154, 3) := by decide +kernel
theorem dL_law_1344 : decode cL_law 1344 = .ok (.aload_n 1, 1) := by decide +kernel
theorem dL_law_1345 : decode cL_law 1345 = .ok (.aload_n 0, 1) := by decide +kernel
theorem dL_law_1346 : decode cL_law 1346 = .ok (.iload 4, 2) := by decide +kernel
theorem dL_law_1348 : decode cL_law 1348 = .ok (.iconst 1, 1) := by decide +kernel
theorem dL_law_1349 : decode cL_law 1349 = .ok (.iadd, 1) := by decide +kernel
theorem dL_law_1350 : decode cL_law 1350 = .ok (.iaload, 1) := by decide +kernel
theorem dL_law_1351 : decode cL_law 1351 = .ok (.aload_n 3, 1) := by decide +kernel
theorem dL_law_1352 : decode cL_law 1352 = .ok (.invokestatic 185, 3) := by decide +kernel
theorem dL_law_1355 : decode cL_law 1355 = .ok (.istore 5, 2) := by decide +kernel
theorem dL_law_1357 : decode cL_law 1357 = .ok (.aload_n 2, 1) := by decide +kernel
theorem dL_law_1358 : decode cL_law 1358 = .ok (.aload_n 0, 1) := by decide +kernel
theorem dL_law_1359 : decode cL_law 1359 = .ok (.iload 4, 2) := by decide +kernel
theorem dL_law_1361 : decode cL_law 1361 = .ok (.iconst 1, 1) := by decide +kernel
theorem dL_law_1362 : decode cL_law 1362 = .ok (.iadd, 1) := by decide +kernel
theorem dL_law_1363 : decode cL_law 1363 = .ok (.iaload, 1) := by decide +kernel
theorem dL_law_1364 : decode cL_law 1364 = .ok (.invokevirtual 187, 3) := by decide +kernel
theorem dL_law_1367 : decode cL_law 1367 = .ok (.istore 6, 2) := by decide +kernel
theorem dL_law_1369 : decode cL_law 1369 = .ok (.aload_n 2, 1) := by decide +kernel
theorem dL_law_1370 : decode cL_law 1370 = .ok (.invokevirtual 84, 3) := by decide +kernel
theorem dL_law_1373 : decode cL_law 1373 = .ok (.iload 5, 2) := by decide +kernel
theorem dL_law_1375 : decode cL_law 1375 = .ok (.if_icmp .eq 5, 3) := by decide +kernel
theorem dL_law_1378 : decode cL_law 1378 = .ok (.iconst 0, 1) := by decide +kernel
theorem dL_law_1379 : decode cL_law 1379 = .ok (.ireturn, 1) := by decide +kernel
theorem dL_law_1380 : decode cL_law 1380 = .ok (.iload 5, 2) := by decide +kernel
theorem dL_law_1382 : decode cL_law 1382 = .ok (.ifCond .ne 15, 3) := by decide +kernel
theorem dL_law_1385 : decode cL_law 1385 = .ok (.aload_n 3, 1) := by decide +kernel
theorem dL_law_1386 : decode cL_law 1386 = .ok (.iconst 0, 1) := by decide +kernel
theorem dL_law_1387 : decode cL_law 1387 = .ok (.laload, 1) := by decide +kernel
theorem dL_law_1388 : decode cL_law 1388 = .ok (.iload 6, 2) := by decide +kernel
theorem dL_law_1390 : decode cL_law 1390 = .ok (.i2l, 1) := by decide +kernel
theorem dL_law_1391 : decode cL_law 1391 = .ok (.lcmp, 1) := by decide +kernel
theorem dL_law_1392 : decode cL_law 1392 = .ok (.ifCond .eq 5, 3) := by decide +kernel
theorem dL_law_1395 : decode cL_law 1395 = .ok (.iconst 0, 1) := by decide +kernel
theorem dL_law_1396 : decode cL_law 1396 = .ok (.ireturn, 1) := by decide +kernel
theorem dL_law_1397 : decode cL_law 1397 = .ok (.goto 98, 3) := by decide +kernel
theorem dL_law_1400 : decode cL_law 1400 = .ok (.aload_n 1, 1) := by decide +kernel
theorem dL_law_1401 : decode cL_law 1401 = .ok (.invokevirtual 188, 3) := by decide +kernel
theorem dL_law_1404 : decode cL_law 1404 = .ok (.aload_n 2, 1) := by decide +kernel
theorem dL_law_1405 : decode cL_law 1405 = .ok (.invokevirtual 191, 3) := by decide +kernel
theorem dL_law_1408 : decode cL_law 1408 = .ok (.if_icmp .eq 87, 3) := by decide +kernel
theorem dL_law_1411 : decode cL_law 1411 = .ok (.iconst 0, 1) := by decide +kernel
theorem dL_law_1412 : decode cL_law 1412 = .ok (.ireturn, 1) := by decide +kernel
theorem dL_law_1413 : decode cL_law 1413 = .ok (.aload_n 1, 1) := by decide +kernel
theorem dL_law_1414 : decode cL_law 1414 = .ok (.aload_n 0, 1) := by decide +kernel
theorem dL_law_1415 : decode cL_law 1415 = .ok (.iload 4, 2) := by decide +kernel
theorem dL_law_1417 : decode cL_law 1417 = .ok (.iconst 1, 1) := by decide +kernel
theorem dL_law_1418 : decode cL_law 1418 = .ok (.iadd, 1) := by decide +kernel
theorem dL_law_1419 : decode cL_law 1419 = .ok (.iaload, 1) := by decide +kernel
theorem dL_law_1420 : decode cL_law 1420 = .ok (.aload_n 3, 1) := by decide +kernel
theorem dL_law_1421 : decode cL_law 1421 = .ok (.invokestatic 192, 3) := by decide +kernel
theorem dL_law_1424 : decode cL_law 1424 = .ok (.istore 5, 2) := by decide +kernel
theorem dL_law_1426 : decode cL_law 1426 = .ok (.aload_n 2, 1) := by decide +kernel
theorem dL_law_1427 : decode cL_law 1427 = .ok (.aload_n 0, 1) := by decide +kernel
theorem dL_law_1428 : decode cL_law 1428 = .ok (.iload 4, 2) := by decide +kernel
theorem dL_law_1430 : decode cL_law 1430 = .ok (.iconst 1, 1) := by decide +kernel
theorem dL_law_1431 : decode cL_law 1431 = .ok (.iadd, 1) := by decide +kernel
theorem dL_law_1432 : decode cL_law 1432 = .ok (.iaload, 1) := by decide +kernel
theorem dL_law_1433 : decode cL_law 1433 = .ok (.invokevirtual 194, 3) := by decide +kernel
theorem dL_law_1436 : decode cL_law 1436 = .ok (.istore 6, 2) := by decide +kernel
theorem dL_law_1438 : decode cL_law 1438 = .ok (.aload_n 2, 1) := by decide +kernel
theorem dL_law_1439 : decode cL_law 1439 = .ok (.invokevirtual 84, 3) := by decide +kernel
theorem dL_law_1442 : decode cL_law 1442 = .ok (.iload 5, 2) := by decide +kernel
theorem dL_law_1444 : decode cL_law 1444 = .ok (.if_icmp .eq 5, 3) := by decide +kernel
theorem dL_law_1447 : decode cL_law 1447 = .ok (.iconst 0, 1) := by decide +kernel
theorem dL_law_1448 : decode cL_law 1448 = .ok (.ireturn, 1) := by decide +kernel
theorem dL_law_1449 : decode cL_law 1449 = .ok (.iload 5, 2) := by decide +kernel
theorem dL_law_1451 : decode cL_law 1451 = .ok (.ifCond .ne 15, 3) := by decide +kernel
theorem dL_law_1454 : decode cL_law 1454 = .ok (.aload_n 3, 1) := by decide +kernel
theorem dL_law_1455 : decode cL_law 1455 = .ok (.iconst 0, 1) := by decide +kernel
theorem dL_law_1456 : decode cL_law 1456 = .ok (.laload, 1) := by decide +kernel
theorem dL_law_1457 : decode cL_law 1457 = .ok (.iload 6, 2) := by decide +kernel
theorem dL_law_1459 : decode cL_law 1459 = .ok (.i2l, 1) := by decide +kernel
theorem dL_law_1460 : decode cL_law 1460 = .ok (.lcmp, 1) := by decide +kernel
theorem dL_law_1461 : decode cL_law 1461 = .ok (.ifCond .eq 5, 3) := by decide +kernel
theorem dL_law_1464 : decode cL_law 1464 = .ok (.iconst 0, 1) := by decide +kernel
theorem dL_law_1465 : decode cL_law 1465 = .ok (.ireturn, 1) := by decide +kernel
theorem dL_law_1466 : decode cL_law 1466 = .ok (.goto 29, 3) := by decide +kernel
theorem dL_law_1469 : decode cL_law 1469 = .ok (.aload_n 1, 1) := by decide +kernel
theorem dL_law_1470 : decode cL_law 1470 = .ok (.invokevirtual 195, 3) := by decide +kernel
theorem dL_law_1473 : decode cL_law 1473 = .ok (.aload_n 2, 1) := by decide +kernel
theorem dL_law_1474 : decode cL_law 1474 = .ok (.invokevirtual 198, 3) := by decide +kernel
theorem dL_law_1477 : decode cL_law 1477 = .ok (.if_icmp .eq 18, 3) := by decide +kernel
theorem dL_law_1480 : decode cL_law 1480 = .ok (.iconst 0, 1) := by decide +kernel
theorem dL_law_1481 : decode cL_law 1481 = .ok (.ireturn, 1) := by decide +kernel
theorem dL_law_1482 : decode cL_law 1482 = .ok (.aload_n 1, 1) := by decide +kernel
theorem dL_law_1483 : decode cL_law 1483 = .ok (.invokevirtual 199, 3) := by decide +kernel
theorem dL_law_1486 : decode cL_law 1486 = .ok (.aload_n 2, 1) := by decide +kernel
theorem dL_law_1487 : decode cL_law 1487 = .ok (.invokevirtual 202, 3) := by decide +kernel
theorem dL_law_1490 : decode cL_law 1490 = .ok (.if_icmp .eq 5, 3) := by decide +kernel
theorem dL_law_1493 : decode cL_law 1493 = .ok (.iconst 0, 1) := by decide +kernel
theorem dL_law_1494 : decode cL_law 1494 = .ok (.ireturn, 1) := by decide +kernel
theorem dL_law_1495 : decode cL_law 1495 = .ok (.iinc 4 3, 3) := by decide +kernel
theorem dL_law_1498 : decode cL_law 1498 = .ok (.goto (-1475), 3) := by decide +kernel
theorem dL_law_1501 : decode cL_law 1501 = .ok (.iconst 1, 1) := by decide +kernel
theorem dL_law_1502 : decode cL_law 1502 = .ok (.ireturn, 1) := by decide +kernel
set_option maxHeartbeats 4000000 in
set_option maxRecDepth 100000 in
theorem law_put {p : Program} {l : Launch} (hl9 : l.stackTraces = false) {e : Env} {s : State} {m : MethodId} {below : List Frame} {meth : Method} {c : Code} {D : va_G} {cy cq : ClassId} {b N9 i : Nat} {xs : Nat → Int32} {args : Array Value} {Q : State → Prop} {cells slots : Nat} {a bb : Nat → Nat} {oo : Nat} {ws : va_W} {H : Heap} {locs : List Loc} {ls : Array Slot} (C : tq_C p s m meth c "TwinHashTablesLaw" cL_law 7 (some .boolean)) (hN : va_Nc tqISE tqIAE s) (hK : va_K D vwCl (tq_ty2 cy cq) s) (hE : tq_E (fun q : Nat => s.heap.size ≤ q) s s.heap) (hX : va_X b N9 xs s s.heap) (hbl : b < s.heap.size) (hL : N9 ≤ 1536) (hi : i + 2 < N9) (hcells : cells + 1 ≤ 1053) (hslots : slots + 6 ≤ 11515) (hI : INV cy cq a bb oo ws) (hP : va_P D vwCl ws H) (hD : va_D (fun q : Nat => s.heap.size ≤ q) ws) (hS : va_S (fun q : Nat => s.heap.size ≤ q) s.heap H locs) (hl : lv_has ls 7 [(0, .ref b), (1, .ref (a 0)), (2, .ref (bb 0)), (3, .ref oo), (4, .int (nI i))]) (kk : ∀ (ws : va_W) (H : Heap) (locs : List Loc) (ls : Array Slot), INV cy cq a bb oo ws → va_P D vwCl ws H → va_D (fun q : Nat => s.heap.size ≤ q) ws → va_S (fun q : Nat => s.heap.size ≤ q) s.heap H locs → lv_has ls 7 [(0, .ref b), (1, .ref (a 0)), (2, .ref (bb 0)), (3, .ref oo), (4, .int (nI i))] → W p l e room_1 s m args below meth c H locs (cells + 1) (slots + 6) Q (F0 m 1495 ls [])) : W p l e room_1 s m args below meth c H locs cells slots Q (F0 m 188 ls []) := by
  obtain ⟨key, val, ord, tk, cp, efi, ela, eco, ene, ldp, dp, dbl, hlv, spl, mrg, lfi, lla, lco, lne, lev, ptr, llo, lhi, lsp, dep, E, L9, sto, vas, dpt, ext, lin, mov, thr, ov, rfl, hCR, hMR, hMC⟩ := hI
  obtain ⟨hx, hb, hml, hown, hrt, hlk, hT⟩ := id C
  have hK1 : va_K D vwCl (tq_ty cy) s := hK.sub [0] rfl
  have hA : ∀ q : Nat, s.heap.size ≤ q → (fun q : Nat => s.heap.size ≤ q) q := fun _ h => h
  have hbA : ¬ (fun q : Nat => s.heap.size ≤ q) b := Nat.not_le.mpr hbl
  obtain ⟨p1, hp1⟩ : ∃ z, z = xs (nI (i + 1)).toNatClampNeg := ⟨_, rfl⟩
  obtain ⟨p2, hp2⟩ : ∃ z, z = xs (nI (i + 2)).toNatClampNeg := ⟨_, rfl⟩
  refine lv_aload_n hx hb dL_law_188 rfl (lv_at hl 1 rfl) ?_
  refine lv_aload_n hx hb dL_law_189 rfl (lv_at hl 0 rfl) ?_
  refine lv_iload hx hb dL_law_190 (lv_at hl 4 rfl) ?_
  refine lv_iconst (v := nI 1) hx hb dL_law_192 (by decide) ?_
  refine tq_iadd C dL_law_193 ?_
  refine va_sld hx hb hX hbl hbA hS (vp_inN (by omega) hL) dL_law_194 ?_
  rw [← hp1]
  refine lv_aload_n hx hb dL_law_195 rfl (lv_at hl 0 rfl) ?_
  refine lv_iload hx hb dL_law_196 (lv_at hl 4 rfl) ?_
  refine lv_iconst (v := nI 2) hx hb dL_law_198 (by decide) ?_
  refine tq_iadd C dL_law_199 ?_
  refine va_sld hx hb hX hbl hbA hS (vp_inN (by omega) hL) dL_law_200 ?_
  rw [← hp2]
  refine lv_aload_n hx hb dL_law_201 rfl (lv_at hl 3 rfl) ?_
  refine tq_callI (W3 := fun u => (wZ cy a u.1 u.2.1 u.2.2.1 u.2.2.2.1 cp u.2.2.2.2.1 u.2.2.2.2.2.1 u.2.2.2.2.2.2.1 u.2.2.2.2.2.2.2.1 u.2.2.2.2.2.2.2.2.1 u.2.2.2.2.2.2.2.2.2.1 u.2.2.2.2.2.2.2.2.2.2.1 hlv u.2.2.2.2.2.2.2.2.2.2.2.1 mrg u.2.2.2.2.2.2.2.2.2.2.2.2.1 u.2.2.2.2.2.2.2.2.2.2.2.2.2.1 u.2.2.2.2.2.2.2.2.2.2.2.2.2.2.1 u.2.2.2.2.2.2.2.2.2.2.2.2.2.2.2.1 u.2.2.2.2.2.2.2.2.2.2.2.2.2.2.2.2.1 u.2.2.2.2.2.2.2.2.2.2.2.2.2.2.2.2.2.1 llo lhi u.2.2.2.2.2.2.2.2.2.2.2.2.2.2.2.2.2.2.1 bb sto vas tk cp llo lhi dpt dp ext dbl hlv spl mrg lin lev ptr lsp mov thr cq oo u.2.2.2.2.2.2.2.2.2.2.2.2.2.2.2.2.2.2.2)) (wr := [18, 19, 20, 21, 22, 23, 24].filterMap (fun i => (wZ cy a key val ord tk cp efi ela eco ene ldp dp dbl hlv spl mrg lfi lla lco lne lev ptr llo lhi lsp bb sto vas tk cp llo lhi dpt dp ext dbl hlv spl mrg lin lev ptr lsp mov thr cq oo ov)[i]?)) (vx_runSW C.fix (As := [.ref (a 0), .int p1, .int p2, .ref oo]) (rest := []) (c_L_put l hl9 D cy cq a key val ord tk cp efi ela eco ene ldp dp dbl hlv spl mrg lfi lla lco lne lev ptr llo lhi lsp oo ov p1 p2 dep E L9 hCR H.size) (tq_cW (n := 4) C ml_L_78 sm_L_put ini_L cw_L_put ⟨by decide, by decide, by decide +kernel⟩ ⟨Nat.le_of_ble_eq_true rfl, Nat.le_of_ble_eq_true rfl⟩) ⟨tq_Pl.blind, tq_preL C hN hK hP hD hS hA hE [0, 1, 2, 3, 4, 5, 6, 7, 8, 9, 10, 11, 12, 13, 14, 15, 16, 17, 25] (by decide) rfl⟩ rfl rfl hl.1 rfl (lv_room (Nat.le_of_ble_eq_true rfl)) dL_law_202 ⟨hcells, hslots⟩) hP hD hS hA [0, 1, 2, 3, 4, 5, 6, 7, 8, 9, 10, 11, 12, 13, 14, 15, 16, 17, 25] [18, 19, 20, 21, 22, 23, 24] [7, 8, 9, 10, 11, 12, 13, 14, 15, 16, 17, 18, 19, 20, 21, 22, 23, 24, 0, 1, 2, 3, 4, 5, 6, 25] rfl rfl (by decide) (by decide) (by decide) (fun _ => rfl) (fun k u H locs hw hP hD hS => ?_)
  have hP : va_P D vwCl (wZ cy a u.1 u.2.1 u.2.2.1 u.2.2.2.1 cp u.2.2.2.2.1 u.2.2.2.2.2.1 u.2.2.2.2.2.2.1 u.2.2.2.2.2.2.2.1 u.2.2.2.2.2.2.2.2.1 u.2.2.2.2.2.2.2.2.2.1 u.2.2.2.2.2.2.2.2.2.2.1 hlv u.2.2.2.2.2.2.2.2.2.2.2.1 mrg u.2.2.2.2.2.2.2.2.2.2.2.2.1 u.2.2.2.2.2.2.2.2.2.2.2.2.2.1 u.2.2.2.2.2.2.2.2.2.2.2.2.2.2.1 u.2.2.2.2.2.2.2.2.2.2.2.2.2.2.2.1 u.2.2.2.2.2.2.2.2.2.2.2.2.2.2.2.2.1 u.2.2.2.2.2.2.2.2.2.2.2.2.2.2.2.2.2.1 llo lhi u.2.2.2.2.2.2.2.2.2.2.2.2.2.2.2.2.2.2.1 bb sto vas tk cp llo lhi dpt dp ext dbl hlv spl mrg lin lev ptr lsp mov thr cq oo u.2.2.2.2.2.2.2.2.2.2.2.2.2.2.2.2.2.2.2) H := hP
  have hD : va_D (fun q : Nat => s.heap.size ≤ q) (wZ cy a u.1 u.2.1 u.2.2.1 u.2.2.2.1 cp u.2.2.2.2.1 u.2.2.2.2.2.1 u.2.2.2.2.2.2.1 u.2.2.2.2.2.2.2.1 u.2.2.2.2.2.2.2.2.1 u.2.2.2.2.2.2.2.2.2.1 u.2.2.2.2.2.2.2.2.2.2.1 hlv u.2.2.2.2.2.2.2.2.2.2.2.1 mrg u.2.2.2.2.2.2.2.2.2.2.2.2.1 u.2.2.2.2.2.2.2.2.2.2.2.2.2.1 u.2.2.2.2.2.2.2.2.2.2.2.2.2.2.1 u.2.2.2.2.2.2.2.2.2.2.2.2.2.2.2.1 u.2.2.2.2.2.2.2.2.2.2.2.2.2.2.2.2.1 u.2.2.2.2.2.2.2.2.2.2.2.2.2.2.2.2.2.1 llo lhi u.2.2.2.2.2.2.2.2.2.2.2.2.2.2.2.2.2.2.1 bb sto vas tk cp llo lhi dpt dp ext dbl hlv spl mrg lin lev ptr lsp mov thr cq oo u.2.2.2.2.2.2.2.2.2.2.2.2.2.2.2.2.2.2.2) := hD
  refine lv_istore (lv' := [(5, .int k), (0, .ref b), (1, .ref (a 0)), (2, .ref (bb 0)), (3, .ref oo), (4, .int (nI i))]) hx hb dL_law_205 hl (by decide) rfl (fun ls hl => ?_)
  refine lv_aload_n hx hb dL_law_207 rfl (lv_at hl 3 rfl) ?_
  refine lv_aload_n hx hb dL_law_208 rfl (lv_at hl 1 rfl) ?_
  refine lv_iload hx hb dL_law_209 (lv_at hl 5 rfl) ?_
  refine lv_iconst (v := nI 1) hx hb dL_law_211 (by decide) ?_
  refine tq_iadd C dL_law_212 ?_
  refine va_sld hx hb hX hbl hbA hS (vp_inN (by omega) hL) dL_law_213 ?_
  rw [← hp1]
  refine lv_aload_n hx hb dL_law_214 rfl (lv_at hl 1 rfl) ?_
  refine lv_iload hx hb dL_law_215 (lv_at hl 5 rfl) ?_
  refine lv_iconst (v := nI 2) hx hb dL_law_217 (by decide) ?_
  refine tq_iadd C dL_law_218 ?_
  refine va_sld hx hb hX hbl hbA hS (vp_inN (by omega) hL) dL_law_219 ?_
  rw [← hp2]
  refine tq_callI (W3 := fun v => (wZ cy a u.1 u.2.1 u.2.2.1 u.2.2.2.1 cp u.2.2.2.2.1 u.2.2.2.2.2.1 u.2.2.2.2.2.2.1 u.2.2.2.2.2.2.2.1 u.2.2.2.2.2.2.2.2.1 u.2.2.2.2.2.2.2.2.2.1 u.2.2.2.2.2.2.2.2.2.2.1 hlv u.2.2.2.2.2.2.2.2.2.2.2.1 mrg u.2.2.2.2.2.2.2.2.2.2.2.2.1 u.2.2.2.2.2.2.2.2.2.2.2.2.2.1 u.2.2.2.2.2.2.2.2.2.2.2.2.2.2.1 u.2.2.2.2.2.2.2.2.2.2.2.2.2.2.2.1 u.2.2.2.2.2.2.2.2.2.2.2.2.2.2.2.2.1 u.2.2.2.2.2.2.2.2.2.2.2.2.2.2.2.2.2.1 llo lhi u.2.2.2.2.2.2.2.2.2.2.2.2.2.2.2.2.2.2.1 bb v.1 v.2.1 v.2.2.1 cp llo lhi v.2.2.2.1 v.2.2.2.2.1 v.2.2.2.2.2.1 v.2.2.2.2.2.2.1 hlv v.2.2.2.2.2.2.2.1 mrg v.2.2.2.2.2.2.2.2.1 v.2.2.2.2.2.2.2.2.2.1 v.2.2.2.2.2.2.2.2.2.2.1 v.2.2.2.2.2.2.2.2.2.2.2.1 mov v.2.2.2.2.2.2.2.2.2.2.2.2 cq oo u.2.2.2.2.2.2.2.2.2.2.2.2.2.2.2.2.2.2.2)) (wr := [0, 1, 2, 3, 4, 5, 6, 7, 8, 9, 10, 11, 12, 13, 14, 15, 16, 17, 25].filterMap (fun i => (wZ cy a u.1 u.2.1 u.2.2.1 u.2.2.2.1 cp u.2.2.2.2.1 u.2.2.2.2.2.1 u.2.2.2.2.2.2.1 u.2.2.2.2.2.2.2.1 u.2.2.2.2.2.2.2.2.1 u.2.2.2.2.2.2.2.2.2.1 u.2.2.2.2.2.2.2.2.2.2.1 hlv u.2.2.2.2.2.2.2.2.2.2.2.1 mrg u.2.2.2.2.2.2.2.2.2.2.2.2.1 u.2.2.2.2.2.2.2.2.2.2.2.2.2.1 u.2.2.2.2.2.2.2.2.2.2.2.2.2.2.1 u.2.2.2.2.2.2.2.2.2.2.2.2.2.2.2.1 u.2.2.2.2.2.2.2.2.2.2.2.2.2.2.2.2.1 u.2.2.2.2.2.2.2.2.2.2.2.2.2.2.2.2.2.1 llo lhi u.2.2.2.2.2.2.2.2.2.2.2.2.2.2.2.2.2.2.1 bb sto vas tk cp llo lhi dpt dp ext dbl hlv spl mrg lin lev ptr lsp mov thr cq oo u.2.2.2.2.2.2.2.2.2.2.2.2.2.2.2.2.2.2.2)[i]?)) (va_runV C.fix (As := [.int p1, .int p2]) (rest := []) (c_X5_put l D cy bb sto vas tk cp llo lhi dpt dp ext dbl hlv spl mrg lin lev ptr lsp mov thr p1 p2 (stl key val ord tk) dep E L9 hMR hMC H.size) (tq_cV (n := 2) C ml_L_83 im_X5_put se_X5_put ini_X5 cd_X5_put ⟨by decide, by decide, by decide +kernel⟩ ⟨Nat.le_of_ble_eq_true rfl, Nat.le_of_ble_eq_true rfl⟩) ⟨tq_Pc.blind, va_recv hK hP (ci := 5) (q0 := 18) rfl rfl, tq_preC C hK1 (hP.sub [18, 19, 20, 21, 22, 23, 24] rfl) (hD.sub [18, 19, 20, 21, 22, 23, 24] (by decide) rfl)⟩ rfl rfl hl.1 rfl (lv_room (Nat.le_of_ble_eq_true rfl)) dL_law_220 ⟨hcells, hslots⟩) hP hD hS hA [18, 19, 20, 21, 22, 23, 24] [0, 1, 2, 3, 4, 5, 6, 7, 8, 9, 10, 11, 12, 13, 14, 15, 16, 17, 25] [0, 1, 2, 3, 4, 5, 6, 7, 8, 9, 10, 11, 12, 13, 14, 15, 16, 17, 19, 20, 21, 22, 23, 24, 25, 18] rfl rfl (by decide) (by decide) (by decide) (fun _ => rfl) (fun r2 v H locs hm hP hD hS => ?_)
  have hP : va_P D vwCl (wZ cy a u.1 u.2.1 u.2.2.1 u.2.2.2.1 cp u.2.2.2.2.1 u.2.2.2.2.2.1 u.2.2.2.2.2.2.1 u.2.2.2.2.2.2.2.1 u.2.2.2.2.2.2.2.2.1 u.2.2.2.2.2.2.2.2.2.1 u.2.2.2.2.2.2.2.2.2.2.1 hlv u.2.2.2.2.2.2.2.2.2.2.2.1 mrg u.2.2.2.2.2.2.2.2.2.2.2.2.1 u.2.2.2.2.2.2.2.2.2.2.2.2.2.1 u.2.2.2.2.2.2.2.2.2.2.2.2.2.2.1 u.2.2.2.2.2.2.2.2.2.2.2.2.2.2.2.1 u.2.2.2.2.2.2.2.2.2.2.2.2.2.2.2.2.1 u.2.2.2.2.2.2.2.2.2.2.2.2.2.2.2.2.2.1 llo lhi u.2.2.2.2.2.2.2.2.2.2.2.2.2.2.2.2.2.2.1 bb v.1 v.2.1 v.2.2.1 cp llo lhi v.2.2.2.1 v.2.2.2.2.1 v.2.2.2.2.2.1 v.2.2.2.2.2.2.1 hlv v.2.2.2.2.2.2.2.1 mrg v.2.2.2.2.2.2.2.2.1 v.2.2.2.2.2.2.2.2.2.1 v.2.2.2.2.2.2.2.2.2.2.1 v.2.2.2.2.2.2.2.2.2.2.2.1 mov v.2.2.2.2.2.2.2.2.2.2.2.2 cq oo u.2.2.2.2.2.2.2.2.2.2.2.2.2.2.2.2.2.2.2) H := hP
  have hD : va_D (fun q : Nat => s.heap.size ≤ q) (wZ cy a u.1 u.2.1 u.2.2.1 u.2.2.2.1 cp u.2.2.2.2.1 u.2.2.2.2.2.1 u.2.2.2.2.2.2.1 u.2.2.2.2.2.2.2.1 u.2.2.2.2.2.2.2.2.1 u.2.2.2.2.2.2.2.2.2.1 u.2.2.2.2.2.2.2.2.2.2.1 hlv u.2.2.2.2.2.2.2.2.2.2.2.1 mrg u.2.2.2.2.2.2.2.2.2.2.2.2.1 u.2.2.2.2.2.2.2.2.2.2.2.2.2.1 u.2.2.2.2.2.2.2.2.2.2.2.2.2.2.1 u.2.2.2.2.2.2.2.2.2.2.2.2.2.2.2.1 u.2.2.2.2.2.2.2.2.2.2.2.2.2.2.2.2.1 u.2.2.2.2.2.2.2.2.2.2.2.2.2.2.2.2.2.1 llo lhi u.2.2.2.2.2.2.2.2.2.2.2.2.2.2.2.2.2.2.1 bb v.1 v.2.1 v.2.2.1 cp llo lhi v.2.2.2.1 v.2.2.2.2.1 v.2.2.2.2.2.1 v.2.2.2.2.2.2.1 hlv v.2.2.2.2.2.2.2.1 mrg v.2.2.2.2.2.2.2.2.1 v.2.2.2.2.2.2.2.2.2.1 v.2.2.2.2.2.2.2.2.2.2.1 v.2.2.2.2.2.2.2.2.2.2.2.1 mov v.2.2.2.2.2.2.2.2.2.2.2.2 cq oo u.2.2.2.2.2.2.2.2.2.2.2.2.2.2.2.2.2.2.2) := hD
  refine lv_istore (lv' := [(6, .int r2), (5, .int k), (0, .ref b), (1, .ref (a 0)), (2, .ref (bb 0)), (3, .ref oo), (4, .int (nI i))]) hx hb dL_law_223 hl (by decide) rfl (fun ls hl => ?_)
  refine lv_aload_n hx hb dL_law_225 rfl (lv_at hl 4 rfl) ?_
  have hw2 := hw.imp_right (fun ⟨E9, h1, h2, h3⟩ => (⟨E9, h1, h2, by subst h3; exact ⟨dep, E, L9, hCR, rfl⟩⟩ : ∃ E9 : String, (fun E9 => (E9 = "java/lang/IllegalArgumentException" ∧ ¬ (isKey p1 ∧ isVal p2)) ∨ (E9 = "java/lang/IllegalStateException" ∧ ∃ k v : Nat, k < 65536 ∧ v < 1000000 ∧ p1 = nI k ∧ p2 = nI v ∧ (∀ w, (k, w) ∉ (stl key val ord tk)) ∧ tk = 120)) E9 ∧ k = cod E9 ∧ ∃ dep2 E2 L2, CR u.1 u.2.1 u.2.2.1 u.2.2.2.1 cp u.2.2.2.2.1 u.2.2.2.2.2.1 u.2.2.2.2.2.2.1 u.2.2.2.2.2.2.2.1 u.2.2.2.2.2.2.2.2.1 u.2.2.2.2.2.2.2.2.2.1 u.2.2.2.2.2.2.2.2.2.2.2.2.1 u.2.2.2.2.2.2.2.2.2.2.2.2.2.1 u.2.2.2.2.2.2.2.2.2.2.2.2.2.2.1 u.2.2.2.2.2.2.2.2.2.2.2.2.2.2.2.1 u.2.2.2.2.2.2.2.2.2.2.2.2.2.2.2.2.1 u.2.2.2.2.2.2.2.2.2.2.2.2.2.2.2.2.2.1 llo lhi dep2 E2 L2 ∧ mkA u.1 u.2.1 u.2.2.1 u.2.2.2.1 cp dep2 u.2.2.2.2.2.2.2.2.2.1 E2 u.2.2.2.2.2.2.2.2.2.2.1 hlv u.2.2.2.2.2.2.2.2.2.2.2.1 mrg L2 u.2.2.2.2.2.2.2.2.2.2.2.2.2.2.2.2.1 u.2.2.2.2.2.2.2.2.2.2.2.2.2.2.2.2.2.1 llo lhi u.2.2.2.2.2.2.2.2.2.2.2.2.2.2.2.2.2.2.1 = mkA key val ord tk cp dep dp E dbl hlv spl mrg L9 lev ptr llo lhi lsp))
  have hq3 := meet_put (J1 := fun B => ∃ dep2 E2 L2, CR u.1 u.2.1 u.2.2.1 u.2.2.2.1 cp u.2.2.2.2.1 u.2.2.2.2.2.1 u.2.2.2.2.2.2.1 u.2.2.2.2.2.2.2.1 u.2.2.2.2.2.2.2.2.1 u.2.2.2.2.2.2.2.2.2.1 u.2.2.2.2.2.2.2.2.2.2.2.2.1 u.2.2.2.2.2.2.2.2.2.2.2.2.2.1 u.2.2.2.2.2.2.2.2.2.2.2.2.2.2.1 u.2.2.2.2.2.2.2.2.2.2.2.2.2.2.2.1 u.2.2.2.2.2.2.2.2.2.2.2.2.2.2.2.2.1 u.2.2.2.2.2.2.2.2.2.2.2.2.2.2.2.2.2.1 llo lhi dep2 E2 L2 ∧ mkA u.1 u.2.1 u.2.2.1 u.2.2.2.1 cp dep2 u.2.2.2.2.2.2.2.2.2.1 E2 u.2.2.2.2.2.2.2.2.2.2.1 hlv u.2.2.2.2.2.2.2.2.2.2.2.1 mrg L2 u.2.2.2.2.2.2.2.2.2.2.2.2.2.2.2.2.1 u.2.2.2.2.2.2.2.2.2.2.2.2.2.2.2.2.2.1 llo lhi u.2.2.2.2.2.2.2.2.2.2.2.2.2.2.2.2.2.2.1 = B) (J2 := fun B => ∃ S2 dep2 E2 L2, MR v.1 v.2.1 v.2.2.1 v.2.2.2.1 v.2.2.2.2.2.1 v.2.2.2.2.2.2.2.2.1 mov S2 dep2 E2 L2 ∧ MC cp llo lhi v.2.2.2.2.1 v.2.2.2.2.2.2.2.2.2.1 v.2.2.2.2.2.2.2.2.2.2.1 dep2 ∧ mkM S2 cp llo lhi dep2 v.2.2.2.2.1 E2 v.2.2.2.2.2.2.1 hlv v.2.2.2.2.2.2.2.1 mrg L2 v.2.2.2.2.2.2.2.2.2.1 v.2.2.2.2.2.2.2.2.2.2.1 v.2.2.2.2.2.2.2.2.2.2.2.1 = B) (A := mkA key val ord tk cp dep dp E dbl hlv spl mrg L9 lev ptr llo lhi lsp) (stl_sorted hCR.1.2.2.2.1) hw2 hm
  obtain ⟨hq0, hq1, B9, ⟨dep2, E2, L2, g1, g2⟩, S3, dep3, E3, L3, g3, g4, g5⟩ := hq3
  have hq : nI v.2.2.2.2.2.2.2.2.2.2.2.2 = k ∧ (k = nI 0 → u.2.2.2.2.2.2.2.2.2.2.2.2.2.2.2.2.2.2.2 0 = r2.toInt64) := ⟨hq0, hq1⟩
  have hq2 : INV cy cq a bb oo (wZ cy a u.1 u.2.1 u.2.2.1 u.2.2.2.1 cp u.2.2.2.2.1 u.2.2.2.2.2.1 u.2.2.2.2.2.2.1 u.2.2.2.2.2.2.2.1 u.2.2.2.2.2.2.2.2.1 u.2.2.2.2.2.2.2.2.2.1 u.2.2.2.2.2.2.2.2.2.2.1 hlv u.2.2.2.2.2.2.2.2.2.2.2.1 mrg u.2.2.2.2.2.2.2.2.2.2.2.2.1 u.2.2.2.2.2.2.2.2.2.2.2.2.2.1 u.2.2.2.2.2.2.2.2.2.2.2.2.2.2.1 u.2.2.2.2.2.2.2.2.2.2.2.2.2.2.2.1 u.2.2.2.2.2.2.2.2.2.2.2.2.2.2.2.2.1 u.2.2.2.2.2.2.2.2.2.2.2.2.2.2.2.2.2.1 llo lhi u.2.2.2.2.2.2.2.2.2.2.2.2.2.2.2.2.2.2.1 bb v.1 v.2.1 v.2.2.1 cp llo lhi v.2.2.2.1 v.2.2.2.2.1 v.2.2.2.2.2.1 v.2.2.2.2.2.2.1 hlv v.2.2.2.2.2.2.2.1 mrg v.2.2.2.2.2.2.2.2.1 v.2.2.2.2.2.2.2.2.2.1 v.2.2.2.2.2.2.2.2.2.2.1 v.2.2.2.2.2.2.2.2.2.2.2.1 mov v.2.2.2.2.2.2.2.2.2.2.2.2 cq oo u.2.2.2.2.2.2.2.2.2.2.2.2.2.2.2.2.2.2.2) := INV.mk9 g1 g3 g4 (g2.trans g5.symm)
  refine tq_callF (va_runV C.fix (As := []) (rest := []) (c_X5_thrown l D cy bb v.1 v.2.1 v.2.2.1 cp llo lhi v.2.2.2.1 v.2.2.2.2.1 v.2.2.2.2.2.1 v.2.2.2.2.2.2.1 hlv v.2.2.2.2.2.2.2.1 mrg v.2.2.2.2.2.2.2.2.1 v.2.2.2.2.2.2.2.2.2.1 v.2.2.2.2.2.2.2.2.2.2.1 v.2.2.2.2.2.2.2.2.2.2.2.1 mov v.2.2.2.2.2.2.2.2.2.2.2.2  ) (tq_cV (n := 0) C ml_L_84 im_X5_thrown se_X5_thrown ini_X5 cd_X5_thrown ⟨by decide, by decide, by decide +kernel⟩ ⟨Nat.le_of_ble_eq_true rfl, Nat.le_of_ble_eq_true rfl⟩) ⟨tq_Pf.blind, va_recv hK hP (ci := 5) (q0 := 18) rfl rfl, tq_preF C hK1 (hP.sub [18, 19, 20, 21, 22, 23, 24] rfl)⟩ rfl rfl hl.1 rfl (lv_room (Nat.le_of_ble_eq_true rfl)) dL_law_226 ⟨hcells, hslots⟩) (fun r9 hr9 => ?_)
  obtain rfl := hr9
  refine lv_iload hx hb dL_law_229 (lv_at hl 1 rfl) ?_
  refine lv_icmp_eq (tgt := 236) hx hb dL_law_231 (by decide) (fun _ => ?_) (fun h9 => absurd hq.1 h9)
  refine lv_iload hx hb dL_law_236 (lv_at hl 1 rfl) ?_
  refine lv_if_ne (tgt := 253) hx hb dL_law_238 (by decide) (fun _ => ?_) (fun h9 => ?_)
  · refine lv_goto (tgt := 1495) hx hb dL_law_253 (by decide) ?_
    exact kk _ _ _ _ hq2 hP hD hS (lv_sub hl [2, 3, 4, 5, 6] rfl)
  · have h8 : k = nI 0 := by first | exact h9 | exact Classical.not_not.mp h9
    refine lv_aload_n hx hb dL_law_241 rfl (lv_at hl 5 rfl) ?_
    refine lv_iconst (v := nI 0) hx hb dL_law_242 (by decide) ?_
    refine va_lald hx hb hK hP 25 1 rfl rfl tq_in0 dL_law_243 ?_
    rw [show u.2.2.2.2.2.2.2.2.2.2.2.2.2.2.2.2.2.2.2 (nI 0).toNatClampNeg = r2.toInt64 from hq.2 h8]
    refine lv_iload hx hb dL_law_244 (lv_at hl 0 rfl) ?_
    refine lv_i2l (v := r2.toInt64) hx hb dL_law_246 rfl ?_
    refine lv_lcmp0 hx hb dL_law_247 ?_
    refine lv_if_eq (tgt := 253) hx hb dL_law_248 (by decide) (fun _ => ?_) (fun h7 => absurd rfl h7)
    refine lv_goto (tgt := 1495) hx hb dL_law_253 (by decide) ?_
    exact kk _ _ _ _ hq2 hP hD hS (lv_sub hl [2, 3, 4, 5, 6] rfl)
set_option maxHeartbeats 4000000 in
set_option maxRecDepth 100000 in
theorem law_remove {p : Program} {l : Launch} (hl9 : l.stackTraces = false) {e : Env} {s : State} {m : MethodId} {below : List Frame} {meth : Method} {c : Code} {D : va_G} {cy cq : ClassId} {b N9 i : Nat} {xs : Nat → Int32} {args : Array Value} {Q : State → Prop} {cells slots : Nat} {a bb : Nat → Nat} {oo : Nat} {ws : va_W} {H : Heap} {locs : List Loc} {ls : Array Slot} (C : tq_C p s m meth c "TwinHashTablesLaw" cL_law 7 (some .boolean)) (hN : va_Nc tqISE tqIAE s) (hK : va_K D vwCl (tq_ty2 cy cq) s) (hE : tq_E (fun q : Nat => s.heap.size ≤ q) s s.heap) (hX : va_X b N9 xs s s.heap) (hbl : b < s.heap.size) (hL : N9 ≤ 1536) (hi : i + 2 < N9) (hcells : cells + 1 ≤ 1053) (hslots : slots + 6 ≤ 11515) (hI : INV cy cq a bb oo ws) (hP : va_P D vwCl ws H) (hD : va_D (fun q : Nat => s.heap.size ≤ q) ws) (hS : va_S (fun q : Nat => s.heap.size ≤ q) s.heap H locs) (hl : lv_has ls 7 [(0, .ref b), (1, .ref (a 0)), (2, .ref (bb 0)), (3, .ref oo), (4, .int (nI i))]) (kk : ∀ (ws : va_W) (H : Heap) (locs : List Loc) (ls : Array Slot), INV cy cq a bb oo ws → va_P D vwCl ws H → va_D (fun q : Nat => s.heap.size ≤ q) ws → va_S (fun q : Nat => s.heap.size ≤ q) s.heap H locs → lv_has ls 7 [(0, .ref b), (1, .ref (a 0)), (2, .ref (bb 0)), (3, .ref oo), (4, .int (nI i))] → W p l e room_1 s m args below meth c H locs (cells + 1) (slots + 6) Q (F0 m 1495 ls [])) : W p l e room_1 s m args below meth c H locs cells slots Q (F0 m 256 ls []) := by
  obtain ⟨key, val, ord, tk, cp, efi, ela, eco, ene, ldp, dp, dbl, hlv, spl, mrg, lfi, lla, lco, lne, lev, ptr, llo, lhi, lsp, dep, E, L9, sto, vas, dpt, ext, lin, mov, thr, ov, rfl, hCR, hMR, hMC⟩ := hI
  obtain ⟨hx, hb, hml, hown, hrt, hlk, hT⟩ := id C
  have hK1 : va_K D vwCl (tq_ty cy) s := hK.sub [0] rfl
  have hA : ∀ q : Nat, s.heap.size ≤ q → (fun q : Nat => s.heap.size ≤ q) q := fun _ h => h
  have hbA : ¬ (fun q : Nat => s.heap.size ≤ q) b := Nat.not_le.mpr hbl
  obtain ⟨p1, hp1⟩ : ∃ z, z = xs (nI (i + 1)).toNatClampNeg := ⟨_, rfl⟩
  refine lv_aload_n hx hb dL_law_256 rfl (lv_at hl 1 rfl) ?_
  refine lv_aload_n hx hb dL_law_257 rfl (lv_at hl 0 rfl) ?_
  refine lv_iload hx hb dL_law_258 (lv_at hl 4 rfl) ?_
  refine lv_iconst (v := nI 1) hx hb dL_law_260 (by decide) ?_
  refine tq_iadd C dL_law_261 ?_
  refine va_sld hx hb hX hbl hbA hS (vp_inN (by omega) hL) dL_law_262 ?_
  rw [← hp1]
  refine lv_aload_n hx hb dL_law_263 rfl (lv_at hl 3 rfl) ?_
  refine tq_callI (W3 := fun u => (wZ cy a key val u.1 u.2.1 cp u.2.2.1 u.2.2.2.1 u.2.2.2.2.1 u.2.2.2.2.2.1 u.2.2.2.2.2.2.1 u.2.2.2.2.2.2.2.1 dbl u.2.2.2.2.2.2.2.2.1 spl u.2.2.2.2.2.2.2.2.2.1 u.2.2.2.2.2.2.2.2.2.2.1 u.2.2.2.2.2.2.2.2.2.2.2.1 u.2.2.2.2.2.2.2.2.2.2.2.2.1 u.2.2.2.2.2.2.2.2.2.2.2.2.2.1 u.2.2.2.2.2.2.2.2.2.2.2.2.2.2.1 u.2.2.2.2.2.2.2.2.2.2.2.2.2.2.2.1 llo lhi u.2.2.2.2.2.2.2.2.2.2.2.2.2.2.2.2.1 bb sto vas tk cp llo lhi dpt dp ext dbl hlv spl mrg lin lev ptr lsp mov thr cq oo u.2.2.2.2.2.2.2.2.2.2.2.2.2.2.2.2.2)) (wr := [18, 19, 20, 21, 22, 23, 24].filterMap (fun i => (wZ cy a key val ord tk cp efi ela eco ene ldp dp dbl hlv spl mrg lfi lla lco lne lev ptr llo lhi lsp bb sto vas tk cp llo lhi dpt dp ext dbl hlv spl mrg lin lev ptr lsp mov thr cq oo ov)[i]?)) (vx_runSW C.fix (As := [.ref (a 0), .int p1, .ref oo]) (rest := []) (c_L_remove l hl9 D cy cq a key val ord tk cp efi ela eco ene ldp dp dbl hlv spl mrg lfi lla lco lne lev ptr llo lhi lsp oo ov p1 dep E L9 hCR H.size) (tq_cW (n := 3) C ml_L_88 sm_L_remove ini_L cw_L_remove ⟨by decide, by decide, by decide +kernel⟩ ⟨Nat.le_of_ble_eq_true rfl, Nat.le_of_ble_eq_true rfl⟩) ⟨tq_Pl.blind, tq_preL C hN hK hP hD hS hA hE [0, 1, 2, 3, 4, 5, 6, 7, 8, 9, 10, 11, 12, 13, 14, 15, 16, 17, 25] (by decide) rfl⟩ rfl rfl hl.1 rfl (lv_room (Nat.le_of_ble_eq_true rfl)) dL_law_264 ⟨hcells, hslots⟩) hP hD hS hA [0, 1, 2, 3, 4, 5, 6, 7, 8, 9, 10, 11, 12, 13, 14, 15, 16, 17, 25] [18, 19, 20, 21, 22, 23, 24] [7, 8, 9, 10, 11, 12, 13, 14, 15, 16, 17, 18, 19, 20, 21, 22, 23, 24, 0, 1, 2, 3, 4, 5, 6, 25] rfl rfl (by decide) (by decide) (by decide) (fun _ => rfl) (fun k u H locs hw hP hD hS => ?_)
  have hP : va_P D vwCl (wZ cy a key val u.1 u.2.1 cp u.2.2.1 u.2.2.2.1 u.2.2.2.2.1 u.2.2.2.2.2.1 u.2.2.2.2.2.2.1 u.2.2.2.2.2.2.2.1 dbl u.2.2.2.2.2.2.2.2.1 spl u.2.2.2.2.2.2.2.2.2.1 u.2.2.2.2.2.2.2.2.2.2.1 u.2.2.2.2.2.2.2.2.2.2.2.1 u.2.2.2.2.2.2.2.2.2.2.2.2.1 u.2.2.2.2.2.2.2.2.2.2.2.2.2.1 u.2.2.2.2.2.2.2.2.2.2.2.2.2.2.1 u.2.2.2.2.2.2.2.2.2.2.2.2.2.2.2.1 llo lhi u.2.2.2.2.2.2.2.2.2.2.2.2.2.2.2.2.1 bb sto vas tk cp llo lhi dpt dp ext dbl hlv spl mrg lin lev ptr lsp mov thr cq oo u.2.2.2.2.2.2.2.2.2.2.2.2.2.2.2.2.2) H := hP
  have hD : va_D (fun q : Nat => s.heap.size ≤ q) (wZ cy a key val u.1 u.2.1 cp u.2.2.1 u.2.2.2.1 u.2.2.2.2.1 u.2.2.2.2.2.1 u.2.2.2.2.2.2.1 u.2.2.2.2.2.2.2.1 dbl u.2.2.2.2.2.2.2.2.1 spl u.2.2.2.2.2.2.2.2.2.1 u.2.2.2.2.2.2.2.2.2.2.1 u.2.2.2.2.2.2.2.2.2.2.2.1 u.2.2.2.2.2.2.2.2.2.2.2.2.1 u.2.2.2.2.2.2.2.2.2.2.2.2.2.1 u.2.2.2.2.2.2.2.2.2.2.2.2.2.2.1 u.2.2.2.2.2.2.2.2.2.2.2.2.2.2.2.1 llo lhi u.2.2.2.2.2.2.2.2.2.2.2.2.2.2.2.2.1 bb sto vas tk cp llo lhi dpt dp ext dbl hlv spl mrg lin lev ptr lsp mov thr cq oo u.2.2.2.2.2.2.2.2.2.2.2.2.2.2.2.2.2) := hD
  refine lv_istore (lv' := [(5, .int k), (0, .ref b), (1, .ref (a 0)), (2, .ref (bb 0)), (3, .ref oo), (4, .int (nI i))]) hx hb dL_law_267 hl (by decide) rfl (fun ls hl => ?_)
  refine lv_aload_n hx hb dL_law_269 rfl (lv_at hl 3 rfl) ?_
  refine lv_aload_n hx hb dL_law_270 rfl (lv_at hl 1 rfl) ?_
  refine lv_iload hx hb dL_law_271 (lv_at hl 5 rfl) ?_
  refine lv_iconst (v := nI 1) hx hb dL_law_273 (by decide) ?_
  refine tq_iadd C dL_law_274 ?_
  refine va_sld hx hb hX hbl hbA hS (vp_inN (by omega) hL) dL_law_275 ?_
  rw [← hp1]
  refine tq_callI (W3 := fun v => (wZ cy a key val u.1 u.2.1 cp u.2.2.1 u.2.2.2.1 u.2.2.2.2.1 u.2.2.2.2.2.1 u.2.2.2.2.2.2.1 u.2.2.2.2.2.2.2.1 dbl u.2.2.2.2.2.2.2.2.1 spl u.2.2.2.2.2.2.2.2.2.1 u.2.2.2.2.2.2.2.2.2.2.1 u.2.2.2.2.2.2.2.2.2.2.2.1 u.2.2.2.2.2.2.2.2.2.2.2.2.1 u.2.2.2.2.2.2.2.2.2.2.2.2.2.1 u.2.2.2.2.2.2.2.2.2.2.2.2.2.2.1 u.2.2.2.2.2.2.2.2.2.2.2.2.2.2.2.1 llo lhi u.2.2.2.2.2.2.2.2.2.2.2.2.2.2.2.2.1 bb v.1 v.2.1 v.2.2.1 cp llo lhi v.2.2.2.1 v.2.2.2.2.2.2.1 v.2.2.2.2.1 dbl v.2.2.2.2.2.2.2.1 spl v.2.2.2.2.2.2.2.2.1 v.2.2.2.2.2.2.2.2.2.1 v.2.2.2.2.2.2.2.2.2.2.1 v.2.2.2.2.2.2.2.2.2.2.2.1 v.2.2.2.2.2.2.2.2.2.2.2.2.1 v.2.2.2.2.2.1 v.2.2.2.2.2.2.2.2.2.2.2.2.2 cq oo u.2.2.2.2.2.2.2.2.2.2.2.2.2.2.2.2.2)) (wr := [0, 1, 2, 3, 4, 5, 6, 7, 8, 9, 10, 11, 12, 13, 14, 15, 16, 17, 25].filterMap (fun i => (wZ cy a key val u.1 u.2.1 cp u.2.2.1 u.2.2.2.1 u.2.2.2.2.1 u.2.2.2.2.2.1 u.2.2.2.2.2.2.1 u.2.2.2.2.2.2.2.1 dbl u.2.2.2.2.2.2.2.2.1 spl u.2.2.2.2.2.2.2.2.2.1 u.2.2.2.2.2.2.2.2.2.2.1 u.2.2.2.2.2.2.2.2.2.2.2.1 u.2.2.2.2.2.2.2.2.2.2.2.2.1 u.2.2.2.2.2.2.2.2.2.2.2.2.2.1 u.2.2.2.2.2.2.2.2.2.2.2.2.2.2.1 u.2.2.2.2.2.2.2.2.2.2.2.2.2.2.2.1 llo lhi u.2.2.2.2.2.2.2.2.2.2.2.2.2.2.2.2.1 bb sto vas tk cp llo lhi dpt dp ext dbl hlv spl mrg lin lev ptr lsp mov thr cq oo u.2.2.2.2.2.2.2.2.2.2.2.2.2.2.2.2.2)[i]?)) (va_runV C.fix (As := [.int p1]) (rest := []) (c_X5_remove l D cy bb sto vas tk cp llo lhi dpt dp ext dbl hlv spl mrg lin lev ptr lsp mov thr p1 (stl key val ord tk) dep E L9 hMR hMC H.size) (tq_cV (n := 1) C ml_L_91 im_X5_remove se_X5_remove ini_X5 cd_X5_remove ⟨by decide, by decide, by decide +kernel⟩ ⟨Nat.le_of_ble_eq_true rfl, Nat.le_of_ble_eq_true rfl⟩) ⟨tq_Pc.blind, va_recv hK hP (ci := 5) (q0 := 18) rfl rfl, tq_preC C hK1 (hP.sub [18, 19, 20, 21, 22, 23, 24] rfl) (hD.sub [18, 19, 20, 21, 22, 23, 24] (by decide) rfl)⟩ rfl rfl hl.1 rfl (lv_room (Nat.le_of_ble_eq_true rfl)) dL_law_276 ⟨hcells, hslots⟩) hP hD hS hA [18, 19, 20, 21, 22, 23, 24] [0, 1, 2, 3, 4, 5, 6, 7, 8, 9, 10, 11, 12, 13, 14, 15, 16, 17, 25] [0, 1, 2, 3, 4, 5, 6, 7, 8, 9, 10, 11, 12, 13, 14, 15, 16, 17, 19, 20, 21, 22, 23, 24, 25, 18] rfl rfl (by decide) (by decide) (by decide) (fun _ => rfl) (fun r2 v H locs hm hP hD hS => ?_)
  have hP : va_P D vwCl (wZ cy a key val u.1 u.2.1 cp u.2.2.1 u.2.2.2.1 u.2.2.2.2.1 u.2.2.2.2.2.1 u.2.2.2.2.2.2.1 u.2.2.2.2.2.2.2.1 dbl u.2.2.2.2.2.2.2.2.1 spl u.2.2.2.2.2.2.2.2.2.1 u.2.2.2.2.2.2.2.2.2.2.1 u.2.2.2.2.2.2.2.2.2.2.2.1 u.2.2.2.2.2.2.2.2.2.2.2.2.1 u.2.2.2.2.2.2.2.2.2.2.2.2.2.1 u.2.2.2.2.2.2.2.2.2.2.2.2.2.2.1 u.2.2.2.2.2.2.2.2.2.2.2.2.2.2.2.1 llo lhi u.2.2.2.2.2.2.2.2.2.2.2.2.2.2.2.2.1 bb v.1 v.2.1 v.2.2.1 cp llo lhi v.2.2.2.1 v.2.2.2.2.2.2.1 v.2.2.2.2.1 dbl v.2.2.2.2.2.2.2.1 spl v.2.2.2.2.2.2.2.2.1 v.2.2.2.2.2.2.2.2.2.1 v.2.2.2.2.2.2.2.2.2.2.1 v.2.2.2.2.2.2.2.2.2.2.2.1 v.2.2.2.2.2.2.2.2.2.2.2.2.1 v.2.2.2.2.2.1 v.2.2.2.2.2.2.2.2.2.2.2.2.2 cq oo u.2.2.2.2.2.2.2.2.2.2.2.2.2.2.2.2.2) H := hP
  have hD : va_D (fun q : Nat => s.heap.size ≤ q) (wZ cy a key val u.1 u.2.1 cp u.2.2.1 u.2.2.2.1 u.2.2.2.2.1 u.2.2.2.2.2.1 u.2.2.2.2.2.2.1 u.2.2.2.2.2.2.2.1 dbl u.2.2.2.2.2.2.2.2.1 spl u.2.2.2.2.2.2.2.2.2.1 u.2.2.2.2.2.2.2.2.2.2.1 u.2.2.2.2.2.2.2.2.2.2.2.1 u.2.2.2.2.2.2.2.2.2.2.2.2.1 u.2.2.2.2.2.2.2.2.2.2.2.2.2.1 u.2.2.2.2.2.2.2.2.2.2.2.2.2.2.1 u.2.2.2.2.2.2.2.2.2.2.2.2.2.2.2.1 llo lhi u.2.2.2.2.2.2.2.2.2.2.2.2.2.2.2.2.1 bb v.1 v.2.1 v.2.2.1 cp llo lhi v.2.2.2.1 v.2.2.2.2.2.2.1 v.2.2.2.2.1 dbl v.2.2.2.2.2.2.2.1 spl v.2.2.2.2.2.2.2.2.1 v.2.2.2.2.2.2.2.2.2.1 v.2.2.2.2.2.2.2.2.2.2.1 v.2.2.2.2.2.2.2.2.2.2.2.1 v.2.2.2.2.2.2.2.2.2.2.2.2.1 v.2.2.2.2.2.1 v.2.2.2.2.2.2.2.2.2.2.2.2.2 cq oo u.2.2.2.2.2.2.2.2.2.2.2.2.2.2.2.2.2) := hD
  refine lv_istore (lv' := [(6, .int r2), (5, .int k), (0, .ref b), (1, .ref (a 0)), (2, .ref (bb 0)), (3, .ref oo), (4, .int (nI i))]) hx hb dL_law_279 hl (by decide) rfl (fun ls hl => ?_)
  refine lv_aload_n hx hb dL_law_281 rfl (lv_at hl 4 rfl) ?_
  have hw2 := hw.imp_right (fun ⟨E9, h1, h2, h3⟩ => (⟨E9, h1, h2, by subst h3; exact ⟨dep, E, L9, hCR, rfl⟩⟩ : ∃ E9 : String, (fun E9 => E9 = "java/lang/IllegalArgumentException" ∧ ¬ isKey p1) E9 ∧ k = cod E9 ∧ ∃ dep2 E2 L2, CR key val u.1 u.2.1 cp u.2.2.1 u.2.2.2.1 u.2.2.2.2.1 u.2.2.2.2.2.1 u.2.2.2.2.2.2.1 u.2.2.2.2.2.2.2.1 u.2.2.2.2.2.2.2.2.2.2.1 u.2.2.2.2.2.2.2.2.2.2.2.1 u.2.2.2.2.2.2.2.2.2.2.2.2.1 u.2.2.2.2.2.2.2.2.2.2.2.2.2.1 u.2.2.2.2.2.2.2.2.2.2.2.2.2.2.1 u.2.2.2.2.2.2.2.2.2.2.2.2.2.2.2.1 llo lhi dep2 E2 L2 ∧ mkA key val u.1 u.2.1 cp dep2 u.2.2.2.2.2.2.2.1 E2 dbl u.2.2.2.2.2.2.2.2.1 spl u.2.2.2.2.2.2.2.2.2.1 L2 u.2.2.2.2.2.2.2.2.2.2.2.2.2.2.1 u.2.2.2.2.2.2.2.2.2.2.2.2.2.2.2.1 llo lhi u.2.2.2.2.2.2.2.2.2.2.2.2.2.2.2.2.1 = mkA key val ord tk cp dep dp E dbl hlv spl mrg L9 lev ptr llo lhi lsp))
  have hq3 := meet_remove (J1 := fun B => ∃ dep2 E2 L2, CR key val u.1 u.2.1 cp u.2.2.1 u.2.2.2.1 u.2.2.2.2.1 u.2.2.2.2.2.1 u.2.2.2.2.2.2.1 u.2.2.2.2.2.2.2.1 u.2.2.2.2.2.2.2.2.2.2.1 u.2.2.2.2.2.2.2.2.2.2.2.1 u.2.2.2.2.2.2.2.2.2.2.2.2.1 u.2.2.2.2.2.2.2.2.2.2.2.2.2.1 u.2.2.2.2.2.2.2.2.2.2.2.2.2.2.1 u.2.2.2.2.2.2.2.2.2.2.2.2.2.2.2.1 llo lhi dep2 E2 L2 ∧ mkA key val u.1 u.2.1 cp dep2 u.2.2.2.2.2.2.2.1 E2 dbl u.2.2.2.2.2.2.2.2.1 spl u.2.2.2.2.2.2.2.2.2.1 L2 u.2.2.2.2.2.2.2.2.2.2.2.2.2.2.1 u.2.2.2.2.2.2.2.2.2.2.2.2.2.2.2.1 llo lhi u.2.2.2.2.2.2.2.2.2.2.2.2.2.2.2.2.1 = B) (J2 := fun B => ∃ S2 dep2 E2 L2, MR v.1 v.2.1 v.2.2.1 v.2.2.2.1 v.2.2.2.2.1 v.2.2.2.2.2.2.2.2.2.1 v.2.2.2.2.2.1 S2 dep2 E2 L2 ∧ MC cp llo lhi v.2.2.2.2.2.2.1 v.2.2.2.2.2.2.2.2.2.2.1 v.2.2.2.2.2.2.2.2.2.2.2.1 dep2 ∧ mkM S2 cp llo lhi dep2 v.2.2.2.2.2.2.1 E2 dbl v.2.2.2.2.2.2.2.1 spl v.2.2.2.2.2.2.2.2.1 L2 v.2.2.2.2.2.2.2.2.2.2.1 v.2.2.2.2.2.2.2.2.2.2.2.1 v.2.2.2.2.2.2.2.2.2.2.2.2.1 = B) (A := mkA key val ord tk cp dep dp E dbl hlv spl mrg L9 lev ptr llo lhi lsp) (stl_sorted hCR.1.2.2.2.1) hw2 hm
  obtain ⟨hq0, hq1, B9, ⟨dep2, E2, L2, g1, g2⟩, S3, dep3, E3, L3, g3, g4, g5⟩ := hq3
  have hq : nI v.2.2.2.2.2.2.2.2.2.2.2.2.2 = k ∧ (k = nI 0 → u.2.2.2.2.2.2.2.2.2.2.2.2.2.2.2.2.2 0 = r2.toInt64) := ⟨hq0, hq1⟩
  have hq2 : INV cy cq a bb oo (wZ cy a key val u.1 u.2.1 cp u.2.2.1 u.2.2.2.1 u.2.2.2.2.1 u.2.2.2.2.2.1 u.2.2.2.2.2.2.1 u.2.2.2.2.2.2.2.1 dbl u.2.2.2.2.2.2.2.2.1 spl u.2.2.2.2.2.2.2.2.2.1 u.2.2.2.2.2.2.2.2.2.2.1 u.2.2.2.2.2.2.2.2.2.2.2.1 u.2.2.2.2.2.2.2.2.2.2.2.2.1 u.2.2.2.2.2.2.2.2.2.2.2.2.2.1 u.2.2.2.2.2.2.2.2.2.2.2.2.2.2.1 u.2.2.2.2.2.2.2.2.2.2.2.2.2.2.2.1 llo lhi u.2.2.2.2.2.2.2.2.2.2.2.2.2.2.2.2.1 bb v.1 v.2.1 v.2.2.1 cp llo lhi v.2.2.2.1 v.2.2.2.2.2.2.1 v.2.2.2.2.1 dbl v.2.2.2.2.2.2.2.1 spl v.2.2.2.2.2.2.2.2.1 v.2.2.2.2.2.2.2.2.2.1 v.2.2.2.2.2.2.2.2.2.2.1 v.2.2.2.2.2.2.2.2.2.2.2.1 v.2.2.2.2.2.2.2.2.2.2.2.2.1 v.2.2.2.2.2.1 v.2.2.2.2.2.2.2.2.2.2.2.2.2 cq oo u.2.2.2.2.2.2.2.2.2.2.2.2.2.2.2.2.2) := INV.mk9 g1 g3 g4 (g2.trans g5.symm)
  refine tq_callF (va_runV C.fix (As := []) (rest := []) (c_X5_thrown l D cy bb v.1 v.2.1 v.2.2.1 cp llo lhi v.2.2.2.1 v.2.2.2.2.2.2.1 v.2.2.2.2.1 dbl v.2.2.2.2.2.2.2.1 spl v.2.2.2.2.2.2.2.2.1 v.2.2.2.2.2.2.2.2.2.1 v.2.2.2.2.2.2.2.2.2.2.1 v.2.2.2.2.2.2.2.2.2.2.2.1 v.2.2.2.2.2.2.2.2.2.2.2.2.1 v.2.2.2.2.2.1 v.2.2.2.2.2.2.2.2.2.2.2.2.2  ) (tq_cV (n := 0) C ml_L_84 im_X5_thrown se_X5_thrown ini_X5 cd_X5_thrown ⟨by decide, by decide, by decide +kernel⟩ ⟨Nat.le_of_ble_eq_true rfl, Nat.le_of_ble_eq_true rfl⟩) ⟨tq_Pf.blind, va_recv hK hP (ci := 5) (q0 := 18) rfl rfl, tq_preF C hK1 (hP.sub [18, 19, 20, 21, 22, 23, 24] rfl)⟩ rfl rfl hl.1 rfl (lv_room (Nat.le_of_ble_eq_true rfl)) dL_law_282 ⟨hcells, hslots⟩) (fun r9 hr9 => ?_)
  obtain rfl := hr9
  refine lv_iload hx hb dL_law_285 (lv_at hl 1 rfl) ?_
  refine lv_icmp_eq (tgt := 292) hx hb dL_law_287 (by decide) (fun _ => ?_) (fun h9 => absurd hq.1 h9)
  refine lv_iload hx hb dL_law_292 (lv_at hl 1 rfl) ?_
  refine lv_if_ne (tgt := 309) hx hb dL_law_294 (by decide) (fun _ => ?_) (fun h9 => ?_)
  · refine lv_goto (tgt := 1495) hx hb dL_law_309 (by decide) ?_
    exact kk _ _ _ _ hq2 hP hD hS (lv_sub hl [2, 3, 4, 5, 6] rfl)
  · have h8 : k = nI 0 := by first | exact h9 | exact Classical.not_not.mp h9
    refine lv_aload_n hx hb dL_law_297 rfl (lv_at hl 5 rfl) ?_
    refine lv_iconst (v := nI 0) hx hb dL_law_298 (by decide) ?_
    refine va_lald hx hb hK hP 25 1 rfl rfl tq_in0 dL_law_299 ?_
    rw [show u.2.2.2.2.2.2.2.2.2.2.2.2.2.2.2.2.2 (nI 0).toNatClampNeg = r2.toInt64 from hq.2 h8]
    refine lv_iload hx hb dL_law_300 (lv_at hl 0 rfl) ?_
    refine lv_i2l (v := r2.toInt64) hx hb dL_law_302 rfl ?_
    refine lv_lcmp0 hx hb dL_law_303 ?_
    refine lv_if_eq (tgt := 309) hx hb dL_law_304 (by decide) (fun _ => ?_) (fun h7 => absurd rfl h7)
    refine lv_goto (tgt := 1495) hx hb dL_law_309 (by decide) ?_
    exact kk _ _ _ _ hq2 hP hD hS (lv_sub hl [2, 3, 4, 5, 6] rfl)
set_option maxHeartbeats 4000000 in
set_option maxRecDepth 100000 in
theorem law_get {p : Program} {l : Launch} (hl9 : l.stackTraces = false) {e : Env} {s : State} {m : MethodId} {below : List Frame} {meth : Method} {c : Code} {D : va_G} {cy cq : ClassId} {b N9 i : Nat} {xs : Nat → Int32} {args : Array Value} {Q : State → Prop} {cells slots : Nat} {a bb : Nat → Nat} {oo : Nat} {ws : va_W} {H : Heap} {locs : List Loc} {ls : Array Slot} (C : tq_C p s m meth c "TwinHashTablesLaw" cL_law 7 (some .boolean)) (hN : va_Nc tqISE tqIAE s) (hK : va_K D vwCl (tq_ty2 cy cq) s) (hE : tq_E (fun q : Nat => s.heap.size ≤ q) s s.heap) (hX : va_X b N9 xs s s.heap) (hbl : b < s.heap.size) (hL : N9 ≤ 1536) (hi : i + 2 < N9) (hcells : cells + 1 ≤ 1053) (hslots : slots + 6 ≤ 11515) (hI : INV cy cq a bb oo ws) (hP : va_P D vwCl ws H) (hD : va_D (fun q : Nat => s.heap.size ≤ q) ws) (hS : va_S (fun q : Nat => s.heap.size ≤ q) s.heap H locs) (hl : lv_has ls 7 [(0, .ref b), (1, .ref (a 0)), (2, .ref (bb 0)), (3, .ref oo), (4, .int (nI i))]) (kk : ∀ (ws : va_W) (H : Heap) (locs : List Loc) (ls : Array Slot), INV cy cq a bb oo ws → va_P D vwCl ws H → va_D (fun q : Nat => s.heap.size ≤ q) ws → va_S (fun q : Nat => s.heap.size ≤ q) s.heap H locs → lv_has ls 7 [(0, .ref b), (1, .ref (a 0)), (2, .ref (bb 0)), (3, .ref oo), (4, .int (nI i))] → W p l e room_1 s m args below meth c H locs (cells + 1) (slots + 6) Q (F0 m 1495 ls [])) : W p l e room_1 s m args below meth c H locs cells slots Q (F0 m 312 ls []) := by
  obtain ⟨key, val, ord, tk, cp, efi, ela, eco, ene, ldp, dp, dbl, hlv, spl, mrg, lfi, lla, lco, lne, lev, ptr, llo, lhi, lsp, dep, E, L9, sto, vas, dpt, ext, lin, mov, thr, ov, rfl, hCR, hMR, hMC⟩ := hI
  obtain ⟨hx, hb, hml, hown, hrt, hlk, hT⟩ := id C
  have hK1 : va_K D vwCl (tq_ty cy) s := hK.sub [0] rfl
  have hA : ∀ q : Nat, s.heap.size ≤ q → (fun q : Nat => s.heap.size ≤ q) q := fun _ h => h
  have hbA : ¬ (fun q : Nat => s.heap.size ≤ q) b := Nat.not_le.mpr hbl
  obtain ⟨p1, hp1⟩ : ∃ z, z = xs (nI (i + 1)).toNatClampNeg := ⟨_, rfl⟩
  refine lv_aload_n hx hb dL_law_312 rfl (lv_at hl 1 rfl) ?_
  refine lv_aload_n hx hb dL_law_313 rfl (lv_at hl 0 rfl) ?_
  refine lv_iload hx hb dL_law_314 (lv_at hl 4 rfl) ?_
  refine lv_iconst (v := nI 1) hx hb dL_law_316 (by decide) ?_
  refine tq_iadd C dL_law_317 ?_
  refine va_sld hx hb hX hbl hbA hS (vp_inN (by omega) hL) dL_law_318 ?_
  rw [← hp1]
  refine lv_aload_n hx hb dL_law_319 rfl (lv_at hl 3 rfl) ?_
  refine tq_callI (W3 := fun u => (wZ cy a key val ord tk cp efi ela eco ene ldp dp dbl hlv spl mrg lfi lla lco lne lev ptr llo lhi lsp bb sto vas tk cp llo lhi dpt dp ext dbl hlv spl mrg lin lev ptr lsp mov thr cq oo u)) (wr := [18, 19, 20, 21, 22, 23, 24].filterMap (fun i => (wZ cy a key val ord tk cp efi ela eco ene ldp dp dbl hlv spl mrg lfi lla lco lne lev ptr llo lhi lsp bb sto vas tk cp llo lhi dpt dp ext dbl hlv spl mrg lin lev ptr lsp mov thr cq oo ov)[i]?)) (vx_runSW C.fix (As := [.ref (a 0), .int p1, .ref oo]) (rest := []) (c_L_get l hl9 D cy cq a key val ord tk cp efi ela eco ene ldp dp dbl hlv spl mrg lfi lla lco lne lev ptr llo lhi lsp oo ov p1 dep E L9 hCR H.size) (tq_cW (n := 3) C ml_L_92 sm_L_get ini_L cw_L_get ⟨by decide, by decide, by decide +kernel⟩ ⟨Nat.le_of_ble_eq_true rfl, Nat.le_of_ble_eq_true rfl⟩) ⟨tq_Pl.blind, tq_preL C hN hK hP hD hS hA hE [0, 1, 2, 3, 4, 5, 6, 7, 8, 9, 10, 11, 12, 13, 14, 15, 16, 17, 25] (by decide) rfl⟩ rfl rfl hl.1 rfl (lv_room (Nat.le_of_ble_eq_true rfl)) dL_law_320 ⟨hcells, hslots⟩) hP hD hS hA [0, 1, 2, 3, 4, 5, 6, 7, 8, 9, 10, 11, 12, 13, 14, 15, 16, 17, 25] [18, 19, 20, 21, 22, 23, 24] [7, 8, 9, 10, 11, 12, 13, 14, 15, 16, 17, 18, 19, 20, 21, 22, 23, 24, 0, 1, 2, 3, 4, 5, 6, 25] rfl rfl (by decide) (by decide) (by decide) (fun _ => rfl) (fun k u H locs hw hP hD hS => ?_)
  have hP : va_P D vwCl (wZ cy a key val ord tk cp efi ela eco ene ldp dp dbl hlv spl mrg lfi lla lco lne lev ptr llo lhi lsp bb sto vas tk cp llo lhi dpt dp ext dbl hlv spl mrg lin lev ptr lsp mov thr cq oo u) H := hP
  have hD : va_D (fun q : Nat => s.heap.size ≤ q) (wZ cy a key val ord tk cp efi ela eco ene ldp dp dbl hlv spl mrg lfi lla lco lne lev ptr llo lhi lsp bb sto vas tk cp llo lhi dpt dp ext dbl hlv spl mrg lin lev ptr lsp mov thr cq oo u) := hD
  refine lv_istore (lv' := [(5, .int k), (0, .ref b), (1, .ref (a 0)), (2, .ref (bb 0)), (3, .ref oo), (4, .int (nI i))]) hx hb dL_law_323 hl (by decide) rfl (fun ls hl => ?_)
  refine lv_aload_n hx hb dL_law_325 rfl (lv_at hl 3 rfl) ?_
  refine lv_aload_n hx hb dL_law_326 rfl (lv_at hl 1 rfl) ?_
  refine lv_iload hx hb dL_law_327 (lv_at hl 5 rfl) ?_
  refine lv_iconst (v := nI 1) hx hb dL_law_329 (by decide) ?_
  refine tq_iadd C dL_law_330 ?_
  refine va_sld hx hb hX hbl hbA hS (vp_inN (by omega) hL) dL_law_331 ?_
  rw [← hp1]
  refine tq_callI (W3 := fun v => (wZ cy a key val ord tk cp efi ela eco ene ldp dp dbl hlv spl mrg lfi lla lco lne lev ptr llo lhi lsp bb sto vas tk cp llo lhi dpt dp ext dbl hlv spl mrg lin lev ptr lsp mov v cq oo u)) (wr := [0, 1, 2, 3, 4, 5, 6, 7, 8, 9, 10, 11, 12, 13, 14, 15, 16, 17, 25].filterMap (fun i => (wZ cy a key val ord tk cp efi ela eco ene ldp dp dbl hlv spl mrg lfi lla lco lne lev ptr llo lhi lsp bb sto vas tk cp llo lhi dpt dp ext dbl hlv spl mrg lin lev ptr lsp mov thr cq oo u)[i]?)) (va_runV C.fix (As := [.int p1]) (rest := []) (c_X5_get l D cy bb sto vas tk cp llo lhi dpt dp ext dbl hlv spl mrg lin lev ptr lsp mov thr p1 (stl key val ord tk) dep E L9 hMR hMC H.size) (tq_cV (n := 1) C ml_L_94 im_X5_get se_X5_get ini_X5 cd_X5_get ⟨by decide, by decide, by decide +kernel⟩ ⟨Nat.le_of_ble_eq_true rfl, Nat.le_of_ble_eq_true rfl⟩) ⟨tq_Pc.blind, va_recv hK hP (ci := 5) (q0 := 18) rfl rfl, tq_preC C hK1 (hP.sub [18, 19, 20, 21, 22, 23, 24] rfl) (hD.sub [18, 19, 20, 21, 22, 23, 24] (by decide) rfl)⟩ rfl rfl hl.1 rfl (lv_room (Nat.le_of_ble_eq_true rfl)) dL_law_332 ⟨hcells, hslots⟩) hP hD hS hA [18, 19, 20, 21, 22, 23, 24] [0, 1, 2, 3, 4, 5, 6, 7, 8, 9, 10, 11, 12, 13, 14, 15, 16, 17, 25] [0, 1, 2, 3, 4, 5, 6, 7, 8, 9, 10, 11, 12, 13, 14, 15, 16, 17, 19, 20, 21, 22, 23, 24, 25, 18] rfl rfl (by decide) (by decide) (by decide) (fun _ => rfl) (fun r2 v H locs hm hP hD hS => ?_)
  have hP : va_P D vwCl (wZ cy a key val ord tk cp efi ela eco ene ldp dp dbl hlv spl mrg lfi lla lco lne lev ptr llo lhi lsp bb sto vas tk cp llo lhi dpt dp ext dbl hlv spl mrg lin lev ptr lsp mov v cq oo u) H := hP
  have hD : va_D (fun q : Nat => s.heap.size ≤ q) (wZ cy a key val ord tk cp efi ela eco ene ldp dp dbl hlv spl mrg lfi lla lco lne lev ptr llo lhi lsp bb sto vas tk cp llo lhi dpt dp ext dbl hlv spl mrg lin lev ptr lsp mov v cq oo u) := hD
  refine lv_istore (lv' := [(6, .int r2), (5, .int k), (0, .ref b), (1, .ref (a 0)), (2, .ref (bb 0)), (3, .ref oo), (4, .int (nI i))]) hx hb dL_law_335 hl (by decide) rfl (fun ls hl => ?_)
  refine lv_aload_n hx hb dL_law_337 rfl (lv_at hl 4 rfl) ?_
  have hq : nI v = k ∧ (k = nI 0 → u 0 = r2.toInt64) := meet_read (X := tqIAE) (by decide) hw hm meet_key (getP_uniq (stl_sorted hCR.1.2.2.2.1))
  have hq2 : INV cy cq a bb oo (wZ cy a key val ord tk cp efi ela eco ene ldp dp dbl hlv spl mrg lfi lla lco lne lev ptr llo lhi lsp bb sto vas tk cp llo lhi dpt dp ext dbl hlv spl mrg lin lev ptr lsp mov v cq oo u) := ⟨key, val, ord, tk, cp, efi, ela, eco, ene, ldp, dp, dbl, hlv, spl, mrg, lfi, lla, lco, lne, lev, ptr, llo, lhi, lsp, dep, E, L9, sto, vas, dpt, ext, lin, mov, v, u, rfl, hCR, hMR, hMC⟩
  refine tq_callF (va_runV C.fix (As := []) (rest := []) (c_X5_thrown l D cy bb sto vas tk cp llo lhi dpt dp ext dbl hlv spl mrg lin lev ptr lsp mov v  ) (tq_cV (n := 0) C ml_L_84 im_X5_thrown se_X5_thrown ini_X5 cd_X5_thrown ⟨by decide, by decide, by decide +kernel⟩ ⟨Nat.le_of_ble_eq_true rfl, Nat.le_of_ble_eq_true rfl⟩) ⟨tq_Pf.blind, va_recv hK hP (ci := 5) (q0 := 18) rfl rfl, tq_preF C hK1 (hP.sub [18, 19, 20, 21, 22, 23, 24] rfl)⟩ rfl rfl hl.1 rfl (lv_room (Nat.le_of_ble_eq_true rfl)) dL_law_338 ⟨hcells, hslots⟩) (fun r9 hr9 => ?_)
  obtain rfl := hr9
  refine lv_iload hx hb dL_law_341 (lv_at hl 1 rfl) ?_
  refine lv_icmp_eq (tgt := 348) hx hb dL_law_343 (by decide) (fun _ => ?_) (fun h9 => absurd hq.1 h9)
  refine lv_iload hx hb dL_law_348 (lv_at hl 1 rfl) ?_
  refine lv_if_ne (tgt := 365) hx hb dL_law_350 (by decide) (fun _ => ?_) (fun h9 => ?_)
  · refine lv_goto (tgt := 1495) hx hb dL_law_365 (by decide) ?_
    exact kk _ _ _ _ hq2 hP hD hS (lv_sub hl [2, 3, 4, 5, 6] rfl)
  · have h8 : k = nI 0 := by first | exact h9 | exact Classical.not_not.mp h9
    refine lv_aload_n hx hb dL_law_353 rfl (lv_at hl 5 rfl) ?_
    refine lv_iconst (v := nI 0) hx hb dL_law_354 (by decide) ?_
    refine va_lald hx hb hK hP 25 1 rfl rfl tq_in0 dL_law_355 ?_
    rw [show u (nI 0).toNatClampNeg = r2.toInt64 from hq.2 h8]
    refine lv_iload hx hb dL_law_356 (lv_at hl 0 rfl) ?_
    refine lv_i2l (v := r2.toInt64) hx hb dL_law_358 rfl ?_
    refine lv_lcmp0 hx hb dL_law_359 ?_
    refine lv_if_eq (tgt := 365) hx hb dL_law_360 (by decide) (fun _ => ?_) (fun h7 => absurd rfl h7)
    refine lv_goto (tgt := 1495) hx hb dL_law_365 (by decide) ?_
    exact kk _ _ _ _ hq2 hP hD hS (lv_sub hl [2, 3, 4, 5, 6] rfl)
set_option maxHeartbeats 4000000 in
set_option maxRecDepth 100000 in
theorem law_getByLinear {p : Program} {l : Launch} (hl9 : l.stackTraces = false) {e : Env} {s : State} {m : MethodId} {below : List Frame} {meth : Method} {c : Code} {D : va_G} {cy cq : ClassId} {b N9 i : Nat} {xs : Nat → Int32} {args : Array Value} {Q : State → Prop} {cells slots : Nat} {a bb : Nat → Nat} {oo : Nat} {ws : va_W} {H : Heap} {locs : List Loc} {ls : Array Slot} (C : tq_C p s m meth c "TwinHashTablesLaw" cL_law 7 (some .boolean)) (hN : va_Nc tqISE tqIAE s) (hK : va_K D vwCl (tq_ty2 cy cq) s) (hE : tq_E (fun q : Nat => s.heap.size ≤ q) s s.heap) (hX : va_X b N9 xs s s.heap) (hbl : b < s.heap.size) (hL : N9 ≤ 1536) (hi : i + 2 < N9) (hcells : cells + 1 ≤ 1053) (hslots : slots + 6 ≤ 11515) (hI : INV cy cq a bb oo ws) (hP : va_P D vwCl ws H) (hD : va_D (fun q : Nat => s.heap.size ≤ q) ws) (hS : va_S (fun q : Nat => s.heap.size ≤ q) s.heap H locs) (hl : lv_has ls 7 [(0, .ref b), (1, .ref (a 0)), (2, .ref (bb 0)), (3, .ref oo), (4, .int (nI i))]) (kk : ∀ (ws : va_W) (H : Heap) (locs : List Loc) (ls : Array Slot), INV cy cq a bb oo ws → va_P D vwCl ws H → va_D (fun q : Nat => s.heap.size ≤ q) ws → va_S (fun q : Nat => s.heap.size ≤ q) s.heap H locs → lv_has ls 7 [(0, .ref b), (1, .ref (a 0)), (2, .ref (bb 0)), (3, .ref oo), (4, .int (nI i))] → W p l e room_1 s m args below meth c H locs (cells + 1) (slots + 6) Q (F0 m 1495 ls [])) : W p l e room_1 s m args below meth c H locs cells slots Q (F0 m 368 ls []) := by
  obtain ⟨key, val, ord, tk, cp, efi, ela, eco, ene, ldp, dp, dbl, hlv, spl, mrg, lfi, lla, lco, lne, lev, ptr, llo, lhi, lsp, dep, E, L9, sto, vas, dpt, ext, lin, mov, thr, ov, rfl, hCR, hMR, hMC⟩ := hI
  obtain ⟨hx, hb, hml, hown, hrt, hlk, hT⟩ := id C
  have hK1 : va_K D vwCl (tq_ty cy) s := hK.sub [0] rfl
  have hA : ∀ q : Nat, s.heap.size ≤ q → (fun q : Nat => s.heap.size ≤ q) q := fun _ h => h
  have hbA : ¬ (fun q : Nat => s.heap.size ≤ q) b := Nat.not_le.mpr hbl
  obtain ⟨p1, hp1⟩ : ∃ z, z = xs (nI (i + 1)).toNatClampNeg := ⟨_, rfl⟩
  refine lv_aload_n hx hb dL_law_368 rfl (lv_at hl 1 rfl) ?_
  refine lv_aload_n hx hb dL_law_369 rfl (lv_at hl 0 rfl) ?_
  refine lv_iload hx hb dL_law_370 (lv_at hl 4 rfl) ?_
  refine lv_iconst (v := nI 1) hx hb dL_law_372 (by decide) ?_
  refine tq_iadd C dL_law_373 ?_
  refine va_sld hx hb hX hbl hbA hS (vp_inN (by omega) hL) dL_law_374 ?_
  rw [← hp1]
  refine lv_aload_n hx hb dL_law_375 rfl (lv_at hl 3 rfl) ?_
  refine tq_callI (W3 := fun u => (wZ cy a key val ord tk cp efi ela eco ene ldp dp dbl hlv spl mrg lfi lla lco lne lev ptr llo lhi lsp bb sto vas tk cp llo lhi dpt dp ext dbl hlv spl mrg lin lev ptr lsp mov thr cq oo u)) (wr := [18, 19, 20, 21, 22, 23, 24].filterMap (fun i => (wZ cy a key val ord tk cp efi ela eco ene ldp dp dbl hlv spl mrg lfi lla lco lne lev ptr llo lhi lsp bb sto vas tk cp llo lhi dpt dp ext dbl hlv spl mrg lin lev ptr lsp mov thr cq oo ov)[i]?)) (vx_runSW C.fix (As := [.ref (a 0), .int p1, .ref oo]) (rest := []) (c_L_getByLinear l hl9 D cy cq a key val ord tk cp efi ela eco ene ldp dp dbl hlv spl mrg lfi lla lco lne lev ptr llo lhi lsp oo ov p1 dep E L9 hCR H.size) (tq_cW (n := 3) C ml_L_95 sm_L_getByLinear ini_L cw_L_getByLinear ⟨by decide, by decide, by decide +kernel⟩ ⟨Nat.le_of_ble_eq_true rfl, Nat.le_of_ble_eq_true rfl⟩) ⟨tq_Pl.blind, tq_preL C hN hK hP hD hS hA hE [0, 1, 2, 3, 4, 5, 6, 7, 8, 9, 10, 11, 12, 13, 14, 15, 16, 17, 25] (by decide) rfl⟩ rfl rfl hl.1 rfl (lv_room (Nat.le_of_ble_eq_true rfl)) dL_law_376 ⟨hcells, hslots⟩) hP hD hS hA [0, 1, 2, 3, 4, 5, 6, 7, 8, 9, 10, 11, 12, 13, 14, 15, 16, 17, 25] [18, 19, 20, 21, 22, 23, 24] [7, 8, 9, 10, 11, 12, 13, 14, 15, 16, 17, 18, 19, 20, 21, 22, 23, 24, 0, 1, 2, 3, 4, 5, 6, 25] rfl rfl (by decide) (by decide) (by decide) (fun _ => rfl) (fun k u H locs hw hP hD hS => ?_)
  have hP : va_P D vwCl (wZ cy a key val ord tk cp efi ela eco ene ldp dp dbl hlv spl mrg lfi lla lco lne lev ptr llo lhi lsp bb sto vas tk cp llo lhi dpt dp ext dbl hlv spl mrg lin lev ptr lsp mov thr cq oo u) H := hP
  have hD : va_D (fun q : Nat => s.heap.size ≤ q) (wZ cy a key val ord tk cp efi ela eco ene ldp dp dbl hlv spl mrg lfi lla lco lne lev ptr llo lhi lsp bb sto vas tk cp llo lhi dpt dp ext dbl hlv spl mrg lin lev ptr lsp mov thr cq oo u) := hD
  refine lv_istore (lv' := [(5, .int k), (0, .ref b), (1, .ref (a 0)), (2, .ref (bb 0)), (3, .ref oo), (4, .int (nI i))]) hx hb dL_law_379 hl (by decide) rfl (fun ls hl => ?_)
  refine lv_aload_n hx hb dL_law_381 rfl (lv_at hl 3 rfl) ?_
  refine lv_aload_n hx hb dL_law_382 rfl (lv_at hl 1 rfl) ?_
  refine lv_iload hx hb dL_law_383 (lv_at hl 5 rfl) ?_
  refine lv_iconst (v := nI 1) hx hb dL_law_385 (by decide) ?_
  refine tq_iadd C dL_law_386 ?_
  refine va_sld hx hb hX hbl hbA hS (vp_inN (by omega) hL) dL_law_387 ?_
  rw [← hp1]
  refine tq_callI (W3 := fun v => (wZ cy a key val ord tk cp efi ela eco ene ldp dp dbl hlv spl mrg lfi lla lco lne lev ptr llo lhi lsp bb sto vas tk cp llo lhi dpt dp ext dbl hlv spl mrg lin lev ptr lsp mov v cq oo u)) (wr := [0, 1, 2, 3, 4, 5, 6, 7, 8, 9, 10, 11, 12, 13, 14, 15, 16, 17, 25].filterMap (fun i => (wZ cy a key val ord tk cp efi ela eco ene ldp dp dbl hlv spl mrg lfi lla lco lne lev ptr llo lhi lsp bb sto vas tk cp llo lhi dpt dp ext dbl hlv spl mrg lin lev ptr lsp mov thr cq oo u)[i]?)) (va_runV C.fix (As := [.int p1]) (rest := []) (c_X5_getByLinear l D cy bb sto vas tk cp llo lhi dpt dp ext dbl hlv spl mrg lin lev ptr lsp mov thr p1 (stl key val ord tk) dep E L9 hMR hMC H.size) (tq_cV (n := 1) C ml_L_97 im_X5_getByLinear se_X5_getByLinear ini_X5 cd_X5_getByLinear ⟨by decide, by decide, by decide +kernel⟩ ⟨Nat.le_of_ble_eq_true rfl, Nat.le_of_ble_eq_true rfl⟩) ⟨tq_Pc.blind, va_recv hK hP (ci := 5) (q0 := 18) rfl rfl, tq_preC C hK1 (hP.sub [18, 19, 20, 21, 22, 23, 24] rfl) (hD.sub [18, 19, 20, 21, 22, 23, 24] (by decide) rfl)⟩ rfl rfl hl.1 rfl (lv_room (Nat.le_of_ble_eq_true rfl)) dL_law_388 ⟨hcells, hslots⟩) hP hD hS hA [18, 19, 20, 21, 22, 23, 24] [0, 1, 2, 3, 4, 5, 6, 7, 8, 9, 10, 11, 12, 13, 14, 15, 16, 17, 25] [0, 1, 2, 3, 4, 5, 6, 7, 8, 9, 10, 11, 12, 13, 14, 15, 16, 17, 19, 20, 21, 22, 23, 24, 25, 18] rfl rfl (by decide) (by decide) (by decide) (fun _ => rfl) (fun r2 v H locs hm hP hD hS => ?_)
  have hP : va_P D vwCl (wZ cy a key val ord tk cp efi ela eco ene ldp dp dbl hlv spl mrg lfi lla lco lne lev ptr llo lhi lsp bb sto vas tk cp llo lhi dpt dp ext dbl hlv spl mrg lin lev ptr lsp mov v cq oo u) H := hP
  have hD : va_D (fun q : Nat => s.heap.size ≤ q) (wZ cy a key val ord tk cp efi ela eco ene ldp dp dbl hlv spl mrg lfi lla lco lne lev ptr llo lhi lsp bb sto vas tk cp llo lhi dpt dp ext dbl hlv spl mrg lin lev ptr lsp mov v cq oo u) := hD
  refine lv_istore (lv' := [(6, .int r2), (5, .int k), (0, .ref b), (1, .ref (a 0)), (2, .ref (bb 0)), (3, .ref oo), (4, .int (nI i))]) hx hb dL_law_391 hl (by decide) rfl (fun ls hl => ?_)
  refine lv_aload_n hx hb dL_law_393 rfl (lv_at hl 4 rfl) ?_
  have hq : nI v = k ∧ (k = nI 0 → u 0 = r2.toInt64) := meet_read (X := tqIAE) (by decide) hw hm meet_key (getP_uniq (stl_sorted hCR.1.2.2.2.1))
  have hq2 : INV cy cq a bb oo (wZ cy a key val ord tk cp efi ela eco ene ldp dp dbl hlv spl mrg lfi lla lco lne lev ptr llo lhi lsp bb sto vas tk cp llo lhi dpt dp ext dbl hlv spl mrg lin lev ptr lsp mov v cq oo u) := ⟨key, val, ord, tk, cp, efi, ela, eco, ene, ldp, dp, dbl, hlv, spl, mrg, lfi, lla, lco, lne, lev, ptr, llo, lhi, lsp, dep, E, L9, sto, vas, dpt, ext, lin, mov, v, u, rfl, hCR, hMR, hMC⟩
  refine tq_callF (va_runV C.fix (As := []) (rest := []) (c_X5_thrown l D cy bb sto vas tk cp llo lhi dpt dp ext dbl hlv spl mrg lin lev ptr lsp mov v  ) (tq_cV (n := 0) C ml_L_84 im_X5_thrown se_X5_thrown ini_X5 cd_X5_thrown ⟨by decide, by decide, by decide +kernel⟩ ⟨Nat.le_of_ble_eq_true rfl, Nat.le_of_ble_eq_true rfl⟩) ⟨tq_Pf.blind, va_recv hK hP (ci := 5) (q0 := 18) rfl rfl, tq_preF C hK1 (hP.sub [18, 19, 20, 21, 22, 23, 24] rfl)⟩ rfl rfl hl.1 rfl (lv_room (Nat.le_of_ble_eq_true rfl)) dL_law_394 ⟨hcells, hslots⟩) (fun r9 hr9 => ?_)
  obtain rfl := hr9
  refine lv_iload hx hb dL_law_397 (lv_at hl 1 rfl) ?_
  refine lv_icmp_eq (tgt := 404) hx hb dL_law_399 (by decide) (fun _ => ?_) (fun h9 => absurd hq.1 h9)
  refine lv_iload hx hb dL_law_404 (lv_at hl 1 rfl) ?_
  refine lv_if_ne (tgt := 421) hx hb dL_law_406 (by decide) (fun _ => ?_) (fun h9 => ?_)
  · refine lv_goto (tgt := 1495) hx hb dL_law_421 (by decide) ?_
    exact kk _ _ _ _ hq2 hP hD hS (lv_sub hl [2, 3, 4, 5, 6] rfl)
  · have h8 : k = nI 0 := by first | exact h9 | exact Classical.not_not.mp h9
    refine lv_aload_n hx hb dL_law_409 rfl (lv_at hl 5 rfl) ?_
    refine lv_iconst (v := nI 0) hx hb dL_law_410 (by decide) ?_
    refine va_lald hx hb hK hP 25 1 rfl rfl tq_in0 dL_law_411 ?_
    rw [show u (nI 0).toNatClampNeg = r2.toInt64 from hq.2 h8]
    refine lv_iload hx hb dL_law_412 (lv_at hl 0 rfl) ?_
    refine lv_i2l (v := r2.toInt64) hx hb dL_law_414 rfl ?_
    refine lv_lcmp0 hx hb dL_law_415 ?_
    refine lv_if_eq (tgt := 421) hx hb dL_law_416 (by decide) (fun _ => ?_) (fun h7 => absurd rfl h7)
    refine lv_goto (tgt := 1495) hx hb dL_law_421 (by decide) ?_
    exact kk _ _ _ _ hq2 hP hD hS (lv_sub hl [2, 3, 4, 5, 6] rfl)
set_option maxHeartbeats 4000000 in
set_option maxRecDepth 100000 in
theorem law_rebuild {p : Program} {l : Launch} (hl9 : l.stackTraces = false) {e : Env} {s : State} {m : MethodId} {below : List Frame} {meth : Method} {c : Code} {D : va_G} {cy cq : ClassId} {b N9 i : Nat} {xs : Nat → Int32} {args : Array Value} {Q : State → Prop} {cells slots : Nat} {a bb : Nat → Nat} {oo : Nat} {ws : va_W} {H : Heap} {locs : List Loc} {ls : Array Slot} (C : tq_C p s m meth c "TwinHashTablesLaw" cL_law 7 (some .boolean)) (hN : va_Nc tqISE tqIAE s) (hK : va_K D vwCl (tq_ty2 cy cq) s) (hE : tq_E (fun q : Nat => s.heap.size ≤ q) s s.heap) (hX : va_X b N9 xs s s.heap) (hbl : b < s.heap.size) (hL : N9 ≤ 1536) (hi : i + 2 < N9) (hcells : cells + 1 ≤ 1053) (hslots : slots + 6 ≤ 11515) (hI : INV cy cq a bb oo ws) (hP : va_P D vwCl ws H) (hD : va_D (fun q : Nat => s.heap.size ≤ q) ws) (hS : va_S (fun q : Nat => s.heap.size ≤ q) s.heap H locs) (hl : lv_has ls 7 [(0, .ref b), (1, .ref (a 0)), (2, .ref (bb 0)), (3, .ref oo), (4, .int (nI i))]) (kk : ∀ (ws : va_W) (H : Heap) (locs : List Loc) (ls : Array Slot), INV cy cq a bb oo ws → va_P D vwCl ws H → va_D (fun q : Nat => s.heap.size ≤ q) ws → va_S (fun q : Nat => s.heap.size ≤ q) s.heap H locs → lv_has ls 7 [(0, .ref b), (1, .ref (a 0)), (2, .ref (bb 0)), (3, .ref oo), (4, .int (nI i))] → W p l e room_1 s m args below meth c H locs (cells + 1) (slots + 6) Q (F0 m 1495 ls [])) : W p l e room_1 s m args below meth c H locs cells slots Q (F0 m 450 ls []) := by
  obtain ⟨key, val, ord, tk, cp, efi, ela, eco, ene, ldp, dp, dbl, hlv, spl, mrg, lfi, lla, lco, lne, lev, ptr, llo, lhi, lsp, dep, E, L9, sto, vas, dpt, ext, lin, mov, thr, ov, rfl, hCR, hMR, hMC⟩ := hI
  obtain ⟨hx, hb, hml, hown, hrt, hlk, hT⟩ := id C
  have hK1 : va_K D vwCl (tq_ty cy) s := hK.sub [0] rfl
  have hA : ∀ q : Nat, s.heap.size ≤ q → (fun q : Nat => s.heap.size ≤ q) q := fun _ h => h
  have hbA : ¬ (fun q : Nat => s.heap.size ≤ q) b := Nat.not_le.mpr hbl
  obtain ⟨p1, hp1⟩ : ∃ z, z = xs (nI (i + 1)).toNatClampNeg := ⟨_, rfl⟩
  refine lv_aload_n hx hb dL_law_450 rfl (lv_at hl 1 rfl) ?_
  refine lv_aload_n hx hb dL_law_451 rfl (lv_at hl 0 rfl) ?_
  refine lv_iload hx hb dL_law_452 (lv_at hl 4 rfl) ?_
  refine lv_iconst (v := nI 1) hx hb dL_law_454 (by decide) ?_
  refine tq_iadd C dL_law_455 ?_
  refine va_sld hx hb hX hbl hbA hS (vp_inN (by omega) hL) dL_law_456 ?_
  rw [← hp1]
  refine lv_aload_n hx hb dL_law_457 rfl (lv_at hl 3 rfl) ?_
  refine tq_callI (W3 := fun u => (wZ cy a key val ord u.1 u.2.1 u.2.2.1 u.2.2.2.1 u.2.2.2.2.1 u.2.2.2.2.2.1 u.2.2.2.2.2.2.1 u.2.2.2.2.2.2.2.1 u.2.2.2.2.2.2.2.2.1 hlv u.2.2.2.2.2.2.2.2.2.1 mrg u.2.2.2.2.2.2.2.2.2.2.1 u.2.2.2.2.2.2.2.2.2.2.2.1 u.2.2.2.2.2.2.2.2.2.2.2.2.1 u.2.2.2.2.2.2.2.2.2.2.2.2.2.1 u.2.2.2.2.2.2.2.2.2.2.2.2.2.2.1 u.2.2.2.2.2.2.2.2.2.2.2.2.2.2.2.1 llo lhi u.2.2.2.2.2.2.2.2.2.2.2.2.2.2.2.2.1 bb sto vas tk cp llo lhi dpt dp ext dbl hlv spl mrg lin lev ptr lsp mov thr cq oo u.2.2.2.2.2.2.2.2.2.2.2.2.2.2.2.2.2)) (wr := [18, 19, 20, 21, 22, 23, 24].filterMap (fun i => (wZ cy a key val ord tk cp efi ela eco ene ldp dp dbl hlv spl mrg lfi lla lco lne lev ptr llo lhi lsp bb sto vas tk cp llo lhi dpt dp ext dbl hlv spl mrg lin lev ptr lsp mov thr cq oo ov)[i]?)) (vx_runSW C.fix (As := [.ref (a 0), .int p1, .ref oo]) (rest := []) (c_L_rebuild l hl9 D cy cq a key val ord tk cp efi ela eco ene ldp dp dbl hlv spl mrg lfi lla lco lne lev ptr llo lhi lsp oo ov p1 dep E L9 hCR H.size) (tq_cW (n := 3) C ml_L_106 sm_L_rebuild ini_L cw_L_rebuild ⟨by decide, by decide, by decide +kernel⟩ ⟨Nat.le_of_ble_eq_true rfl, Nat.le_of_ble_eq_true rfl⟩) ⟨tq_Pl.blind, tq_preL C hN hK hP hD hS hA hE [0, 1, 2, 3, 4, 5, 6, 7, 8, 9, 10, 11, 12, 13, 14, 15, 16, 17, 25] (by decide) rfl⟩ rfl rfl hl.1 rfl (lv_room (Nat.le_of_ble_eq_true rfl)) dL_law_458 ⟨hcells, hslots⟩) hP hD hS hA [0, 1, 2, 3, 4, 5, 6, 7, 8, 9, 10, 11, 12, 13, 14, 15, 16, 17, 25] [18, 19, 20, 21, 22, 23, 24] [7, 8, 9, 10, 11, 12, 13, 14, 15, 16, 17, 18, 19, 20, 21, 22, 23, 24, 0, 1, 2, 3, 4, 5, 6, 25] rfl rfl (by decide) (by decide) (by decide) (fun _ => rfl) (fun k u H locs hw hP hD hS => ?_)
  have hP : va_P D vwCl (wZ cy a key val ord u.1 u.2.1 u.2.2.1 u.2.2.2.1 u.2.2.2.2.1 u.2.2.2.2.2.1 u.2.2.2.2.2.2.1 u.2.2.2.2.2.2.2.1 u.2.2.2.2.2.2.2.2.1 hlv u.2.2.2.2.2.2.2.2.2.1 mrg u.2.2.2.2.2.2.2.2.2.2.1 u.2.2.2.2.2.2.2.2.2.2.2.1 u.2.2.2.2.2.2.2.2.2.2.2.2.1 u.2.2.2.2.2.2.2.2.2.2.2.2.2.1 u.2.2.2.2.2.2.2.2.2.2.2.2.2.2.1 u.2.2.2.2.2.2.2.2.2.2.2.2.2.2.2.1 llo lhi u.2.2.2.2.2.2.2.2.2.2.2.2.2.2.2.2.1 bb sto vas tk cp llo lhi dpt dp ext dbl hlv spl mrg lin lev ptr lsp mov thr cq oo u.2.2.2.2.2.2.2.2.2.2.2.2.2.2.2.2.2) H := hP
  have hD : va_D (fun q : Nat => s.heap.size ≤ q) (wZ cy a key val ord u.1 u.2.1 u.2.2.1 u.2.2.2.1 u.2.2.2.2.1 u.2.2.2.2.2.1 u.2.2.2.2.2.2.1 u.2.2.2.2.2.2.2.1 u.2.2.2.2.2.2.2.2.1 hlv u.2.2.2.2.2.2.2.2.2.1 mrg u.2.2.2.2.2.2.2.2.2.2.1 u.2.2.2.2.2.2.2.2.2.2.2.1 u.2.2.2.2.2.2.2.2.2.2.2.2.1 u.2.2.2.2.2.2.2.2.2.2.2.2.2.1 u.2.2.2.2.2.2.2.2.2.2.2.2.2.2.1 u.2.2.2.2.2.2.2.2.2.2.2.2.2.2.2.1 llo lhi u.2.2.2.2.2.2.2.2.2.2.2.2.2.2.2.2.1 bb sto vas tk cp llo lhi dpt dp ext dbl hlv spl mrg lin lev ptr lsp mov thr cq oo u.2.2.2.2.2.2.2.2.2.2.2.2.2.2.2.2.2) := hD
  refine lv_istore (lv' := [(5, .int k), (0, .ref b), (1, .ref (a 0)), (2, .ref (bb 0)), (3, .ref oo), (4, .int (nI i))]) hx hb dL_law_461 hl (by decide) rfl (fun ls hl => ?_)
  refine lv_aload_n hx hb dL_law_463 rfl (lv_at hl 3 rfl) ?_
  refine lv_aload_n hx hb dL_law_464 rfl (lv_at hl 1 rfl) ?_
  refine lv_iload hx hb dL_law_465 (lv_at hl 5 rfl) ?_
  refine lv_iconst (v := nI 1) hx hb dL_law_467 (by decide) ?_
  refine tq_iadd C dL_law_468 ?_
  refine va_sld hx hb hX hbl hbA hS (vp_inN (by omega) hL) dL_law_469 ?_
  rw [← hp1]
  refine tq_callI (W3 := fun v => (wZ cy a key val ord u.1 u.2.1 u.2.2.1 u.2.2.2.1 u.2.2.2.2.1 u.2.2.2.2.2.1 u.2.2.2.2.2.2.1 u.2.2.2.2.2.2.2.1 u.2.2.2.2.2.2.2.2.1 hlv u.2.2.2.2.2.2.2.2.2.1 mrg u.2.2.2.2.2.2.2.2.2.2.1 u.2.2.2.2.2.2.2.2.2.2.2.1 u.2.2.2.2.2.2.2.2.2.2.2.2.1 u.2.2.2.2.2.2.2.2.2.2.2.2.2.1 u.2.2.2.2.2.2.2.2.2.2.2.2.2.2.1 u.2.2.2.2.2.2.2.2.2.2.2.2.2.2.2.1 llo lhi u.2.2.2.2.2.2.2.2.2.2.2.2.2.2.2.2.1 bb v.1 v.2.1 v.2.2.1 v.2.2.2.1 llo lhi v.2.2.2.2.1 v.2.2.2.2.2.1 v.2.2.2.2.2.2.1 v.2.2.2.2.2.2.2.1 hlv v.2.2.2.2.2.2.2.2.1 mrg v.2.2.2.2.2.2.2.2.2.1 v.2.2.2.2.2.2.2.2.2.2.1 v.2.2.2.2.2.2.2.2.2.2.2.1 v.2.2.2.2.2.2.2.2.2.2.2.2.1 mov v.2.2.2.2.2.2.2.2.2.2.2.2.2 cq oo u.2.2.2.2.2.2.2.2.2.2.2.2.2.2.2.2.2)) (wr := [0, 1, 2, 3, 4, 5, 6, 7, 8, 9, 10, 11, 12, 13, 14, 15, 16, 17, 25].filterMap (fun i => (wZ cy a key val ord u.1 u.2.1 u.2.2.1 u.2.2.2.1 u.2.2.2.2.1 u.2.2.2.2.2.1 u.2.2.2.2.2.2.1 u.2.2.2.2.2.2.2.1 u.2.2.2.2.2.2.2.2.1 hlv u.2.2.2.2.2.2.2.2.2.1 mrg u.2.2.2.2.2.2.2.2.2.2.1 u.2.2.2.2.2.2.2.2.2.2.2.1 u.2.2.2.2.2.2.2.2.2.2.2.2.1 u.2.2.2.2.2.2.2.2.2.2.2.2.2.1 u.2.2.2.2.2.2.2.2.2.2.2.2.2.2.1 u.2.2.2.2.2.2.2.2.2.2.2.2.2.2.2.1 llo lhi u.2.2.2.2.2.2.2.2.2.2.2.2.2.2.2.2.1 bb sto vas tk cp llo lhi dpt dp ext dbl hlv spl mrg lin lev ptr lsp mov thr cq oo u.2.2.2.2.2.2.2.2.2.2.2.2.2.2.2.2.2)[i]?)) (va_runV C.fix (As := [.int p1]) (rest := []) (c_X5_rebuild l D cy bb sto vas tk cp llo lhi dpt dp ext dbl hlv spl mrg lin lev ptr lsp mov thr p1 (stl key val ord tk) dep E L9 hMR hMC H.size) (tq_cV (n := 1) C ml_L_108 im_X5_rebuild se_X5_rebuild ini_X5 cd_X5_rebuild ⟨by decide, by decide, by decide +kernel⟩ ⟨Nat.le_of_ble_eq_true rfl, Nat.le_of_ble_eq_true rfl⟩) ⟨tq_Pc.blind, va_recv hK hP (ci := 5) (q0 := 18) rfl rfl, tq_preC C hK1 (hP.sub [18, 19, 20, 21, 22, 23, 24] rfl) (hD.sub [18, 19, 20, 21, 22, 23, 24] (by decide) rfl)⟩ rfl rfl hl.1 rfl (lv_room (Nat.le_of_ble_eq_true rfl)) dL_law_470 ⟨hcells, hslots⟩) hP hD hS hA [18, 19, 20, 21, 22, 23, 24] [0, 1, 2, 3, 4, 5, 6, 7, 8, 9, 10, 11, 12, 13, 14, 15, 16, 17, 25] [0, 1, 2, 3, 4, 5, 6, 7, 8, 9, 10, 11, 12, 13, 14, 15, 16, 17, 19, 20, 21, 22, 23, 24, 25, 18] rfl rfl (by decide) (by decide) (by decide) (fun _ => rfl) (fun r2 v H locs hm hP hD hS => ?_)
  have hP : va_P D vwCl (wZ cy a key val ord u.1 u.2.1 u.2.2.1 u.2.2.2.1 u.2.2.2.2.1 u.2.2.2.2.2.1 u.2.2.2.2.2.2.1 u.2.2.2.2.2.2.2.1 u.2.2.2.2.2.2.2.2.1 hlv u.2.2.2.2.2.2.2.2.2.1 mrg u.2.2.2.2.2.2.2.2.2.2.1 u.2.2.2.2.2.2.2.2.2.2.2.1 u.2.2.2.2.2.2.2.2.2.2.2.2.1 u.2.2.2.2.2.2.2.2.2.2.2.2.2.1 u.2.2.2.2.2.2.2.2.2.2.2.2.2.2.1 u.2.2.2.2.2.2.2.2.2.2.2.2.2.2.2.1 llo lhi u.2.2.2.2.2.2.2.2.2.2.2.2.2.2.2.2.1 bb v.1 v.2.1 v.2.2.1 v.2.2.2.1 llo lhi v.2.2.2.2.1 v.2.2.2.2.2.1 v.2.2.2.2.2.2.1 v.2.2.2.2.2.2.2.1 hlv v.2.2.2.2.2.2.2.2.1 mrg v.2.2.2.2.2.2.2.2.2.1 v.2.2.2.2.2.2.2.2.2.2.1 v.2.2.2.2.2.2.2.2.2.2.2.1 v.2.2.2.2.2.2.2.2.2.2.2.2.1 mov v.2.2.2.2.2.2.2.2.2.2.2.2.2 cq oo u.2.2.2.2.2.2.2.2.2.2.2.2.2.2.2.2.2) H := hP
  have hD : va_D (fun q : Nat => s.heap.size ≤ q) (wZ cy a key val ord u.1 u.2.1 u.2.2.1 u.2.2.2.1 u.2.2.2.2.1 u.2.2.2.2.2.1 u.2.2.2.2.2.2.1 u.2.2.2.2.2.2.2.1 u.2.2.2.2.2.2.2.2.1 hlv u.2.2.2.2.2.2.2.2.2.1 mrg u.2.2.2.2.2.2.2.2.2.2.1 u.2.2.2.2.2.2.2.2.2.2.2.1 u.2.2.2.2.2.2.2.2.2.2.2.2.1 u.2.2.2.2.2.2.2.2.2.2.2.2.2.1 u.2.2.2.2.2.2.2.2.2.2.2.2.2.2.1 u.2.2.2.2.2.2.2.2.2.2.2.2.2.2.2.1 llo lhi u.2.2.2.2.2.2.2.2.2.2.2.2.2.2.2.2.1 bb v.1 v.2.1 v.2.2.1 v.2.2.2.1 llo lhi v.2.2.2.2.1 v.2.2.2.2.2.1 v.2.2.2.2.2.2.1 v.2.2.2.2.2.2.2.1 hlv v.2.2.2.2.2.2.2.2.1 mrg v.2.2.2.2.2.2.2.2.2.1 v.2.2.2.2.2.2.2.2.2.2.1 v.2.2.2.2.2.2.2.2.2.2.2.1 v.2.2.2.2.2.2.2.2.2.2.2.2.1 mov v.2.2.2.2.2.2.2.2.2.2.2.2.2 cq oo u.2.2.2.2.2.2.2.2.2.2.2.2.2.2.2.2.2) := hD
  refine lv_istore (lv' := [(6, .int r2), (5, .int k), (0, .ref b), (1, .ref (a 0)), (2, .ref (bb 0)), (3, .ref oo), (4, .int (nI i))]) hx hb dL_law_473 hl (by decide) rfl (fun ls hl => ?_)
  refine lv_aload_n hx hb dL_law_475 rfl (lv_at hl 4 rfl) ?_
  have hw2 := hw.imp_right (fun ⟨E9, h1, h2, h3⟩ => (⟨E9, h1, h2, by subst h3; exact ⟨dep, E, L9, hCR, rfl⟩⟩ : ∃ E9 : String, (fun E9 => E9 = "java/lang/IllegalArgumentException" ∧ ¬ ∃ cq : Nat, 1 ≤ cq ∧ cq ≤ 5 ∧ p1 = nI cq) E9 ∧ k = cod E9 ∧ ∃ dep2 E2 L2, CR key val ord u.1 u.2.1 u.2.2.1 u.2.2.2.1 u.2.2.2.2.1 u.2.2.2.2.2.1 u.2.2.2.2.2.2.1 u.2.2.2.2.2.2.2.1 u.2.2.2.2.2.2.2.2.2.2.1 u.2.2.2.2.2.2.2.2.2.2.2.1 u.2.2.2.2.2.2.2.2.2.2.2.2.1 u.2.2.2.2.2.2.2.2.2.2.2.2.2.1 u.2.2.2.2.2.2.2.2.2.2.2.2.2.2.1 u.2.2.2.2.2.2.2.2.2.2.2.2.2.2.2.1 llo lhi dep2 E2 L2 ∧ mkA key val ord u.1 u.2.1 dep2 u.2.2.2.2.2.2.2.1 E2 u.2.2.2.2.2.2.2.2.1 hlv u.2.2.2.2.2.2.2.2.2.1 mrg L2 u.2.2.2.2.2.2.2.2.2.2.2.2.2.2.1 u.2.2.2.2.2.2.2.2.2.2.2.2.2.2.2.1 llo lhi u.2.2.2.2.2.2.2.2.2.2.2.2.2.2.2.2.1 = mkA key val ord tk cp dep dp E dbl hlv spl mrg L9 lev ptr llo lhi lsp))
  have hq3 := meet_rebuild (J1 := fun B => ∃ dep2 E2 L2, CR key val ord u.1 u.2.1 u.2.2.1 u.2.2.2.1 u.2.2.2.2.1 u.2.2.2.2.2.1 u.2.2.2.2.2.2.1 u.2.2.2.2.2.2.2.1 u.2.2.2.2.2.2.2.2.2.2.1 u.2.2.2.2.2.2.2.2.2.2.2.1 u.2.2.2.2.2.2.2.2.2.2.2.2.1 u.2.2.2.2.2.2.2.2.2.2.2.2.2.1 u.2.2.2.2.2.2.2.2.2.2.2.2.2.2.1 u.2.2.2.2.2.2.2.2.2.2.2.2.2.2.2.1 llo lhi dep2 E2 L2 ∧ mkA key val ord u.1 u.2.1 dep2 u.2.2.2.2.2.2.2.1 E2 u.2.2.2.2.2.2.2.2.1 hlv u.2.2.2.2.2.2.2.2.2.1 mrg L2 u.2.2.2.2.2.2.2.2.2.2.2.2.2.2.1 u.2.2.2.2.2.2.2.2.2.2.2.2.2.2.2.1 llo lhi u.2.2.2.2.2.2.2.2.2.2.2.2.2.2.2.2.1 = B) (J2 := fun B => ∃ S2 dep2 E2 L2, MR v.1 v.2.1 v.2.2.1 v.2.2.2.2.1 v.2.2.2.2.2.2.1 v.2.2.2.2.2.2.2.2.2.1 mov S2 dep2 E2 L2 ∧ MC v.2.2.2.1 llo lhi v.2.2.2.2.2.1 v.2.2.2.2.2.2.2.2.2.2.1 v.2.2.2.2.2.2.2.2.2.2.2.1 dep2 ∧ mkM S2 v.2.2.2.1 llo lhi dep2 v.2.2.2.2.2.1 E2 v.2.2.2.2.2.2.2.1 hlv v.2.2.2.2.2.2.2.2.1 mrg L2 v.2.2.2.2.2.2.2.2.2.2.1 v.2.2.2.2.2.2.2.2.2.2.2.1 v.2.2.2.2.2.2.2.2.2.2.2.2.1 = B) (A := mkA key val ord tk cp dep dp E dbl hlv spl mrg L9 lev ptr llo lhi lsp) hw2 hm
  obtain ⟨hq0, hq1, B9, ⟨dep2, E2, L2, g1, g2⟩, S3, dep3, E3, L3, g3, g4, g5⟩ := hq3
  have hq : nI v.2.2.2.2.2.2.2.2.2.2.2.2.2 = k ∧ (k = nI 0 → u.2.2.2.2.2.2.2.2.2.2.2.2.2.2.2.2.2 0 = r2.toInt64) := ⟨hq0, hq1⟩
  have hq2 : INV cy cq a bb oo (wZ cy a key val ord u.1 u.2.1 u.2.2.1 u.2.2.2.1 u.2.2.2.2.1 u.2.2.2.2.2.1 u.2.2.2.2.2.2.1 u.2.2.2.2.2.2.2.1 u.2.2.2.2.2.2.2.2.1 hlv u.2.2.2.2.2.2.2.2.2.1 mrg u.2.2.2.2.2.2.2.2.2.2.1 u.2.2.2.2.2.2.2.2.2.2.2.1 u.2.2.2.2.2.2.2.2.2.2.2.2.1 u.2.2.2.2.2.2.2.2.2.2.2.2.2.1 u.2.2.2.2.2.2.2.2.2.2.2.2.2.2.1 u.2.2.2.2.2.2.2.2.2.2.2.2.2.2.2.1 llo lhi u.2.2.2.2.2.2.2.2.2.2.2.2.2.2.2.2.1 bb v.1 v.2.1 v.2.2.1 v.2.2.2.1 llo lhi v.2.2.2.2.1 v.2.2.2.2.2.1 v.2.2.2.2.2.2.1 v.2.2.2.2.2.2.2.1 hlv v.2.2.2.2.2.2.2.2.1 mrg v.2.2.2.2.2.2.2.2.2.1 v.2.2.2.2.2.2.2.2.2.2.1 v.2.2.2.2.2.2.2.2.2.2.2.1 v.2.2.2.2.2.2.2.2.2.2.2.2.1 mov v.2.2.2.2.2.2.2.2.2.2.2.2.2 cq oo u.2.2.2.2.2.2.2.2.2.2.2.2.2.2.2.2.2) := INV.mk9 g1 g3 g4 (g2.trans g5.symm)
  refine tq_callF (va_runV C.fix (As := []) (rest := []) (c_X5_thrown l D cy bb v.1 v.2.1 v.2.2.1 v.2.2.2.1 llo lhi v.2.2.2.2.1 v.2.2.2.2.2.1 v.2.2.2.2.2.2.1 v.2.2.2.2.2.2.2.1 hlv v.2.2.2.2.2.2.2.2.1 mrg v.2.2.2.2.2.2.2.2.2.1 v.2.2.2.2.2.2.2.2.2.2.1 v.2.2.2.2.2.2.2.2.2.2.2.1 v.2.2.2.2.2.2.2.2.2.2.2.2.1 mov v.2.2.2.2.2.2.2.2.2.2.2.2.2  ) (tq_cV (n := 0) C ml_L_84 im_X5_thrown se_X5_thrown ini_X5 cd_X5_thrown ⟨by decide, by decide, by decide +kernel⟩ ⟨Nat.le_of_ble_eq_true rfl, Nat.le_of_ble_eq_true rfl⟩) ⟨tq_Pf.blind, va_recv hK hP (ci := 5) (q0 := 18) rfl rfl, tq_preF C hK1 (hP.sub [18, 19, 20, 21, 22, 23, 24] rfl)⟩ rfl rfl hl.1 rfl (lv_room (Nat.le_of_ble_eq_true rfl)) dL_law_476 ⟨hcells, hslots⟩) (fun r9 hr9 => ?_)
  obtain rfl := hr9
  refine lv_iload hx hb dL_law_479 (lv_at hl 1 rfl) ?_
  refine lv_icmp_eq (tgt := 486) hx hb dL_law_481 (by decide) (fun _ => ?_) (fun h9 => absurd hq.1 h9)
  refine lv_iload hx hb dL_law_486 (lv_at hl 1 rfl) ?_
  refine lv_if_ne (tgt := 503) hx hb dL_law_488 (by decide) (fun _ => ?_) (fun h9 => ?_)
  · refine lv_goto (tgt := 1495) hx hb dL_law_503 (by decide) ?_
    exact kk _ _ _ _ hq2 hP hD hS (lv_sub hl [2, 3, 4, 5, 6] rfl)
  · have h8 : k = nI 0 := by first | exact h9 | exact Classical.not_not.mp h9
    refine lv_aload_n hx hb dL_law_491 rfl (lv_at hl 5 rfl) ?_
    refine lv_iconst (v := nI 0) hx hb dL_law_492 (by decide) ?_
    refine va_lald hx hb hK hP 25 1 rfl rfl tq_in0 dL_law_493 ?_
    rw [show u.2.2.2.2.2.2.2.2.2.2.2.2.2.2.2.2.2 (nI 0).toNatClampNeg = r2.toInt64 from hq.2 h8]
    refine lv_iload hx hb dL_law_494 (lv_at hl 0 rfl) ?_
    refine lv_i2l (v := r2.toInt64) hx hb dL_law_496 rfl ?_
    refine lv_lcmp0 hx hb dL_law_497 ?_
    refine lv_if_eq (tgt := 503) hx hb dL_law_498 (by decide) (fun _ => ?_) (fun h7 => absurd rfl h7)
    refine lv_goto (tgt := 1495) hx hb dL_law_503 (by decide) ?_
    exact kk _ _ _ _ hq2 hP hD hS (lv_sub hl [2, 3, 4, 5, 6] rfl)
set_option maxHeartbeats 4000000 in
set_option maxRecDepth 100000 in
theorem law_setLoads {p : Program} {l : Launch} (hl9 : l.stackTraces = false) {e : Env} {s : State} {m : MethodId} {below : List Frame} {meth : Method} {c : Code} {D : va_G} {cy cq : ClassId} {b N9 i : Nat} {xs : Nat → Int32} {args : Array Value} {Q : State → Prop} {cells slots : Nat} {a bb : Nat → Nat} {oo : Nat} {ws : va_W} {H : Heap} {locs : List Loc} {ls : Array Slot} (C : tq_C p s m meth c "TwinHashTablesLaw" cL_law 7 (some .boolean)) (hN : va_Nc tqISE tqIAE s) (hK : va_K D vwCl (tq_ty2 cy cq) s) (hE : tq_E (fun q : Nat => s.heap.size ≤ q) s s.heap) (hX : va_X b N9 xs s s.heap) (hbl : b < s.heap.size) (hL : N9 ≤ 1536) (hi : i + 2 < N9) (hcells : cells + 1 ≤ 1053) (hslots : slots + 6 ≤ 11515) (hI : INV cy cq a bb oo ws) (hP : va_P D vwCl ws H) (hD : va_D (fun q : Nat => s.heap.size ≤ q) ws) (hS : va_S (fun q : Nat => s.heap.size ≤ q) s.heap H locs) (hl : lv_has ls 7 [(0, .ref b), (1, .ref (a 0)), (2, .ref (bb 0)), (3, .ref oo), (4, .int (nI i))]) (kk : ∀ (ws : va_W) (H : Heap) (locs : List Loc) (ls : Array Slot), INV cy cq a bb oo ws → va_P D vwCl ws H → va_D (fun q : Nat => s.heap.size ≤ q) ws → va_S (fun q : Nat => s.heap.size ≤ q) s.heap H locs → lv_has ls 7 [(0, .ref b), (1, .ref (a 0)), (2, .ref (bb 0)), (3, .ref oo), (4, .int (nI i))] → W p l e room_1 s m args below meth c H locs (cells + 1) (slots + 6) Q (F0 m 1495 ls [])) : W p l e room_1 s m args below meth c H locs cells slots Q (F0 m 506 ls []) := by
  obtain ⟨key, val, ord, tk, cp, efi, ela, eco, ene, ldp, dp, dbl, hlv, spl, mrg, lfi, lla, lco, lne, lev, ptr, llo, lhi, lsp, dep, E, L9, sto, vas, dpt, ext, lin, mov, thr, ov, rfl, hCR, hMR, hMC⟩ := hI
  obtain ⟨hx, hb, hml, hown, hrt, hlk, hT⟩ := id C
  have hK1 : va_K D vwCl (tq_ty cy) s := hK.sub [0] rfl
  have hA : ∀ q : Nat, s.heap.size ≤ q → (fun q : Nat => s.heap.size ≤ q) q := fun _ h => h
  have hbA : ¬ (fun q : Nat => s.heap.size ≤ q) b := Nat.not_le.mpr hbl
  obtain ⟨p1, hp1⟩ : ∃ z, z = xs (nI (i + 1)).toNatClampNeg := ⟨_, rfl⟩
  obtain ⟨p2, hp2⟩ : ∃ z, z = xs (nI (i + 2)).toNatClampNeg := ⟨_, rfl⟩
  refine lv_aload_n hx hb dL_law_506 rfl (lv_at hl 1 rfl) ?_
  refine lv_aload_n hx hb dL_law_507 rfl (lv_at hl 0 rfl) ?_
  refine lv_iload hx hb dL_law_508 (lv_at hl 4 rfl) ?_
  refine lv_iconst (v := nI 1) hx hb dL_law_510 (by decide) ?_
  refine tq_iadd C dL_law_511 ?_
  refine va_sld hx hb hX hbl hbA hS (vp_inN (by omega) hL) dL_law_512 ?_
  rw [← hp1]
  refine lv_aload_n hx hb dL_law_513 rfl (lv_at hl 0 rfl) ?_
  refine lv_iload hx hb dL_law_514 (lv_at hl 4 rfl) ?_
  refine lv_iconst (v := nI 2) hx hb dL_law_516 (by decide) ?_
  refine tq_iadd C dL_law_517 ?_
  refine va_sld hx hb hX hbl hbA hS (vp_inN (by omega) hL) dL_law_518 ?_
  rw [← hp2]
  refine lv_aload_n hx hb dL_law_519 rfl (lv_at hl 3 rfl) ?_
  refine tq_callI (W3 := fun u => (wZ cy a key val ord tk cp efi ela eco ene ldp dp dbl hlv spl mrg lfi lla lco lne lev ptr u.1 u.2.1 lsp bb sto vas tk cp llo lhi dpt dp ext dbl hlv spl mrg lin lev ptr lsp mov thr cq oo u.2.2)) (wr := [18, 19, 20, 21, 22, 23, 24].filterMap (fun i => (wZ cy a key val ord tk cp efi ela eco ene ldp dp dbl hlv spl mrg lfi lla lco lne lev ptr llo lhi lsp bb sto vas tk cp llo lhi dpt dp ext dbl hlv spl mrg lin lev ptr lsp mov thr cq oo ov)[i]?)) (vx_runSW C.fix (As := [.ref (a 0), .int p1, .int p2, .ref oo]) (rest := []) (c_L_setLoads l hl9 D cy cq a key val ord tk cp efi ela eco ene ldp dp dbl hlv spl mrg lfi lla lco lne lev ptr llo lhi lsp oo ov p1 p2 dep E L9 hCR H.size) (tq_cW (n := 4) C ml_L_109 sm_L_setLoads ini_L cw_L_setLoads ⟨by decide, by decide, by decide +kernel⟩ ⟨Nat.le_of_ble_eq_true rfl, Nat.le_of_ble_eq_true rfl⟩) ⟨tq_Pl.blind, tq_preL C hN hK hP hD hS hA hE [0, 1, 2, 3, 4, 5, 6, 7, 8, 9, 10, 11, 12, 13, 14, 15, 16, 17, 25] (by decide) rfl⟩ rfl rfl hl.1 rfl (lv_room (Nat.le_of_ble_eq_true rfl)) dL_law_520 ⟨hcells, hslots⟩) hP hD hS hA [0, 1, 2, 3, 4, 5, 6, 7, 8, 9, 10, 11, 12, 13, 14, 15, 16, 17, 25] [18, 19, 20, 21, 22, 23, 24] [7, 8, 9, 10, 11, 12, 13, 14, 15, 16, 17, 18, 19, 20, 21, 22, 23, 24, 0, 1, 2, 3, 4, 5, 6, 25] rfl rfl (by decide) (by decide) (by decide) (fun _ => rfl) (fun k u H locs hw hP hD hS => ?_)
  have hP : va_P D vwCl (wZ cy a key val ord tk cp efi ela eco ene ldp dp dbl hlv spl mrg lfi lla lco lne lev ptr u.1 u.2.1 lsp bb sto vas tk cp llo lhi dpt dp ext dbl hlv spl mrg lin lev ptr lsp mov thr cq oo u.2.2) H := hP
  have hD : va_D (fun q : Nat => s.heap.size ≤ q) (wZ cy a key val ord tk cp efi ela eco ene ldp dp dbl hlv spl mrg lfi lla lco lne lev ptr u.1 u.2.1 lsp bb sto vas tk cp llo lhi dpt dp ext dbl hlv spl mrg lin lev ptr lsp mov thr cq oo u.2.2) := hD
  refine lv_istore (lv' := [(5, .int k), (0, .ref b), (1, .ref (a 0)), (2, .ref (bb 0)), (3, .ref oo), (4, .int (nI i))]) hx hb dL_law_523 hl (by decide) rfl (fun ls hl => ?_)
  refine lv_aload_n hx hb dL_law_525 rfl (lv_at hl 3 rfl) ?_
  refine lv_aload_n hx hb dL_law_526 rfl (lv_at hl 1 rfl) ?_
  refine lv_iload hx hb dL_law_527 (lv_at hl 5 rfl) ?_
  refine lv_iconst (v := nI 1) hx hb dL_law_529 (by decide) ?_
  refine tq_iadd C dL_law_530 ?_
  refine va_sld hx hb hX hbl hbA hS (vp_inN (by omega) hL) dL_law_531 ?_
  rw [← hp1]
  refine lv_aload_n hx hb dL_law_532 rfl (lv_at hl 1 rfl) ?_
  refine lv_iload hx hb dL_law_533 (lv_at hl 5 rfl) ?_
  refine lv_iconst (v := nI 2) hx hb dL_law_535 (by decide) ?_
  refine tq_iadd C dL_law_536 ?_
  refine va_sld hx hb hX hbl hbA hS (vp_inN (by omega) hL) dL_law_537 ?_
  rw [← hp2]
  refine tq_callI (W3 := fun v => (wZ cy a key val ord tk cp efi ela eco ene ldp dp dbl hlv spl mrg lfi lla lco lne lev ptr u.1 u.2.1 lsp bb sto vas tk cp v.1 v.2.1 dpt dp ext dbl hlv spl mrg lin lev ptr lsp mov v.2.2 cq oo u.2.2)) (wr := [0, 1, 2, 3, 4, 5, 6, 7, 8, 9, 10, 11, 12, 13, 14, 15, 16, 17, 25].filterMap (fun i => (wZ cy a key val ord tk cp efi ela eco ene ldp dp dbl hlv spl mrg lfi lla lco lne lev ptr u.1 u.2.1 lsp bb sto vas tk cp llo lhi dpt dp ext dbl hlv spl mrg lin lev ptr lsp mov thr cq oo u.2.2)[i]?)) (va_runV C.fix (As := [.int p1, .int p2]) (rest := []) (c_X5_setLoads l D cy bb sto vas tk cp llo lhi dpt dp ext dbl hlv spl mrg lin lev ptr lsp mov thr p1 p2 (stl key val ord tk) dep E L9 hMR hMC H.size) (tq_cV (n := 2) C ml_L_111 im_X5_setLoads se_X5_setLoads ini_X5 cd_X5_setLoads ⟨by decide, by decide, by decide +kernel⟩ ⟨Nat.le_of_ble_eq_true rfl, Nat.le_of_ble_eq_true rfl⟩) ⟨tq_Pc.blind, va_recv hK hP (ci := 5) (q0 := 18) rfl rfl, tq_preC C hK1 (hP.sub [18, 19, 20, 21, 22, 23, 24] rfl) (hD.sub [18, 19, 20, 21, 22, 23, 24] (by decide) rfl)⟩ rfl rfl hl.1 rfl (lv_room (Nat.le_of_ble_eq_true rfl)) dL_law_538 ⟨hcells, hslots⟩) hP hD hS hA [18, 19, 20, 21, 22, 23, 24] [0, 1, 2, 3, 4, 5, 6, 7, 8, 9, 10, 11, 12, 13, 14, 15, 16, 17, 25] [0, 1, 2, 3, 4, 5, 6, 7, 8, 9, 10, 11, 12, 13, 14, 15, 16, 17, 19, 20, 21, 22, 23, 24, 25, 18] rfl rfl (by decide) (by decide) (by decide) (fun _ => rfl) (fun r2 v H locs hm hP hD hS => ?_)
  have hP : va_P D vwCl (wZ cy a key val ord tk cp efi ela eco ene ldp dp dbl hlv spl mrg lfi lla lco lne lev ptr u.1 u.2.1 lsp bb sto vas tk cp v.1 v.2.1 dpt dp ext dbl hlv spl mrg lin lev ptr lsp mov v.2.2 cq oo u.2.2) H := hP
  have hD : va_D (fun q : Nat => s.heap.size ≤ q) (wZ cy a key val ord tk cp efi ela eco ene ldp dp dbl hlv spl mrg lfi lla lco lne lev ptr u.1 u.2.1 lsp bb sto vas tk cp v.1 v.2.1 dpt dp ext dbl hlv spl mrg lin lev ptr lsp mov v.2.2 cq oo u.2.2) := hD
  refine lv_istore (lv' := [(6, .int r2), (5, .int k), (0, .ref b), (1, .ref (a 0)), (2, .ref (bb 0)), (3, .ref oo), (4, .int (nI i))]) hx hb dL_law_541 hl (by decide) rfl (fun ls hl => ?_)
  refine lv_aload_n hx hb dL_law_543 rfl (lv_at hl 4 rfl) ?_
  have hw2 := hw.imp_right (fun ⟨E9, h1, h2, h3⟩ => (⟨E9, h1, h2, by subst h3; exact ⟨dep, E, L9, hCR, rfl⟩⟩ : ∃ E9 : String, (fun E9 => E9 = "java/lang/IllegalArgumentException" ∧ ¬ ∃ lo hi : Nat, lo ≤ 50 ∧ 50 ≤ hi ∧ hi ≤ 200 ∧ 2 * lo ≤ hi ∧ p1 = nI lo ∧ p2 = nI hi) E9 ∧ k = cod E9 ∧ ∃ dep2 E2 L2, CR key val ord tk cp efi ela eco ene ldp dp lfi lla lco lne lev ptr u.1 u.2.1 dep2 E2 L2 ∧ mkA key val ord tk cp dep2 dp E2 dbl hlv spl mrg L2 lev ptr u.1 u.2.1 lsp = mkA key val ord tk cp dep dp E dbl hlv spl mrg L9 lev ptr llo lhi lsp))
  have hq3 := meet_setLoads (J1 := fun B => ∃ dep2 E2 L2, CR key val ord tk cp efi ela eco ene ldp dp lfi lla lco lne lev ptr u.1 u.2.1 dep2 E2 L2 ∧ mkA key val ord tk cp dep2 dp E2 dbl hlv spl mrg L2 lev ptr u.1 u.2.1 lsp = B) (J2 := fun B => ∃ S2 dep2 E2 L2, MR sto vas tk dpt ext lin mov S2 dep2 E2 L2 ∧ MC cp v.1 v.2.1 dp lev ptr dep2 ∧ mkM S2 cp v.1 v.2.1 dep2 dp E2 dbl hlv spl mrg L2 lev ptr lsp = B) (A := mkA key val ord tk cp dep dp E dbl hlv spl mrg L9 lev ptr llo lhi lsp) (F := fun lo hi => ((stl key val ord tk, cp, lo, hi), (mkA key val ord tk cp dep dp E dbl hlv spl mrg L9 lev ptr llo lhi lsp).2)) hw2 hm
  obtain ⟨hq0, hq1, B9, ⟨dep2, E2, L2, g1, g2⟩, S3, dep3, E3, L3, g3, g4, g5⟩ := hq3
  have hq : nI v.2.2 = k ∧ (k = nI 0 → u.2.2 0 = r2.toInt64) := ⟨hq0, hq1⟩
  have hq2 : INV cy cq a bb oo (wZ cy a key val ord tk cp efi ela eco ene ldp dp dbl hlv spl mrg lfi lla lco lne lev ptr u.1 u.2.1 lsp bb sto vas tk cp v.1 v.2.1 dpt dp ext dbl hlv spl mrg lin lev ptr lsp mov v.2.2 cq oo u.2.2) := INV.mk9 g1 g3 g4 (g2.trans g5.symm)
  refine tq_callF (va_runV C.fix (As := []) (rest := []) (c_X5_thrown l D cy bb sto vas tk cp v.1 v.2.1 dpt dp ext dbl hlv spl mrg lin lev ptr lsp mov v.2.2  ) (tq_cV (n := 0) C ml_L_84 im_X5_thrown se_X5_thrown ini_X5 cd_X5_thrown ⟨by decide, by decide, by decide +kernel⟩ ⟨Nat.le_of_ble_eq_true rfl, Nat.le_of_ble_eq_true rfl⟩) ⟨tq_Pf.blind, va_recv hK hP (ci := 5) (q0 := 18) rfl rfl, tq_preF C hK1 (hP.sub [18, 19, 20, 21, 22, 23, 24] rfl)⟩ rfl rfl hl.1 rfl (lv_room (Nat.le_of_ble_eq_true rfl)) dL_law_544 ⟨hcells, hslots⟩) (fun r9 hr9 => ?_)
  obtain rfl := hr9
  refine lv_iload hx hb dL_law_547 (lv_at hl 1 rfl) ?_
  refine lv_icmp_eq (tgt := 554) hx hb dL_law_549 (by decide) (fun _ => ?_) (fun h9 => absurd hq.1 h9)
  refine lv_iload hx hb dL_law_554 (lv_at hl 1 rfl) ?_
  refine lv_if_ne (tgt := 571) hx hb dL_law_556 (by decide) (fun _ => ?_) (fun h9 => ?_)
  · refine lv_goto (tgt := 1495) hx hb dL_law_571 (by decide) ?_
    exact kk _ _ _ _ hq2 hP hD hS (lv_sub hl [2, 3, 4, 5, 6] rfl)
  · have h8 : k = nI 0 := by first | exact h9 | exact Classical.not_not.mp h9
    refine lv_aload_n hx hb dL_law_559 rfl (lv_at hl 5 rfl) ?_
    refine lv_iconst (v := nI 0) hx hb dL_law_560 (by decide) ?_
    refine va_lald hx hb hK hP 25 1 rfl rfl tq_in0 dL_law_561 ?_
    rw [show u.2.2 (nI 0).toNatClampNeg = r2.toInt64 from hq.2 h8]
    refine lv_iload hx hb dL_law_562 (lv_at hl 0 rfl) ?_
    refine lv_i2l (v := r2.toInt64) hx hb dL_law_564 rfl ?_
    refine lv_lcmp0 hx hb dL_law_565 ?_
    refine lv_if_eq (tgt := 571) hx hb dL_law_566 (by decide) (fun _ => ?_) (fun h7 => absurd rfl h7)
    refine lv_goto (tgt := 1495) hx hb dL_law_571 (by decide) ?_
    exact kk _ _ _ _ hq2 hP hD hS (lv_sub hl [2, 3, 4, 5, 6] rfl)
set_option maxHeartbeats 4000000 in
set_option maxRecDepth 100000 in
theorem law_hashOf {p : Program} {l : Launch} (hl9 : l.stackTraces = false) {e : Env} {s : State} {m : MethodId} {below : List Frame} {meth : Method} {c : Code} {D : va_G} {cy cq : ClassId} {b N9 i : Nat} {xs : Nat → Int32} {args : Array Value} {Q : State → Prop} {cells slots : Nat} {a bb : Nat → Nat} {oo : Nat} {ws : va_W} {H : Heap} {locs : List Loc} {ls : Array Slot} (C : tq_C p s m meth c "TwinHashTablesLaw" cL_law 7 (some .boolean)) (hN : va_Nc tqISE tqIAE s) (hK : va_K D vwCl (tq_ty2 cy cq) s) (hE : tq_E (fun q : Nat => s.heap.size ≤ q) s s.heap) (hX : va_X b N9 xs s s.heap) (hbl : b < s.heap.size) (hL : N9 ≤ 1536) (hi : i + 2 < N9) (hcells : cells + 1 ≤ 1053) (hslots : slots + 6 ≤ 11515) (hI : INV cy cq a bb oo ws) (hP : va_P D vwCl ws H) (hD : va_D (fun q : Nat => s.heap.size ≤ q) ws) (hS : va_S (fun q : Nat => s.heap.size ≤ q) s.heap H locs) (hl : lv_has ls 7 [(0, .ref b), (1, .ref (a 0)), (2, .ref (bb 0)), (3, .ref oo), (4, .int (nI i))]) (kk : ∀ (ws : va_W) (H : Heap) (locs : List Loc) (ls : Array Slot), INV cy cq a bb oo ws → va_P D vwCl ws H → va_D (fun q : Nat => s.heap.size ≤ q) ws → va_S (fun q : Nat => s.heap.size ≤ q) s.heap H locs → lv_has ls 7 [(0, .ref b), (1, .ref (a 0)), (2, .ref (bb 0)), (3, .ref oo), (4, .int (nI i))] → W p l e room_1 s m args below meth c H locs (cells + 1) (slots + 6) Q (F0 m 1495 ls [])) : W p l e room_1 s m args below meth c H locs cells slots Q (F0 m 574 ls []) := by
  obtain ⟨key, val, ord, tk, cp, efi, ela, eco, ene, ldp, dp, dbl, hlv, spl, mrg, lfi, lla, lco, lne, lev, ptr, llo, lhi, lsp, dep, E, L9, sto, vas, dpt, ext, lin, mov, thr, ov, rfl, hCR, hMR, hMC⟩ := hI
  obtain ⟨hx, hb, hml, hown, hrt, hlk, hT⟩ := id C
  have hK1 : va_K D vwCl (tq_ty cy) s := hK.sub [0] rfl
  have hA : ∀ q : Nat, s.heap.size ≤ q → (fun q : Nat => s.heap.size ≤ q) q := fun _ h => h
  have hbA : ¬ (fun q : Nat => s.heap.size ≤ q) b := Nat.not_le.mpr hbl
  obtain ⟨p1, hp1⟩ : ∃ z, z = xs (nI (i + 1)).toNatClampNeg := ⟨_, rfl⟩
  refine lv_aload_n hx hb dL_law_574 rfl (lv_at hl 1 rfl) ?_
  refine lv_aload_n hx hb dL_law_575 rfl (lv_at hl 0 rfl) ?_
  refine lv_iload hx hb dL_law_576 (lv_at hl 4 rfl) ?_
  refine lv_iconst (v := nI 1) hx hb dL_law_578 (by decide) ?_
  refine tq_iadd C dL_law_579 ?_
  refine va_sld hx hb hX hbl hbA hS (vp_inN (by omega) hL) dL_law_580 ?_
  rw [← hp1]
  refine lv_aload_n hx hb dL_law_581 rfl (lv_at hl 3 rfl) ?_
  refine tq_callI (W3 := fun u => (wZ cy a key val ord tk cp efi ela eco ene ldp dp dbl hlv spl mrg lfi lla lco lne lev ptr llo lhi lsp bb sto vas tk cp llo lhi dpt dp ext dbl hlv spl mrg lin lev ptr lsp mov thr cq oo u)) (wr := [18, 19, 20, 21, 22, 23, 24].filterMap (fun i => (wZ cy a key val ord tk cp efi ela eco ene ldp dp dbl hlv spl mrg lfi lla lco lne lev ptr llo lhi lsp bb sto vas tk cp llo lhi dpt dp ext dbl hlv spl mrg lin lev ptr lsp mov thr cq oo ov)[i]?)) (vx_runSW C.fix (As := [.ref (a 0), .int p1, .ref oo]) (rest := []) (c_L_hashOf l hl9 D cy cq a key val ord tk cp efi ela eco ene ldp dp dbl hlv spl mrg lfi lla lco lne lev ptr llo lhi lsp oo ov p1  H.size) (tq_cW (n := 3) C ml_L_112 sm_L_hashOf ini_L cw_L_hashOf ⟨by decide, by decide, by decide +kernel⟩ ⟨Nat.le_of_ble_eq_true rfl, Nat.le_of_ble_eq_true rfl⟩) ⟨tq_Pl.blind, tq_preL C hN hK hP hD hS hA hE [0, 1, 2, 3, 4, 5, 6, 7, 8, 9, 10, 11, 12, 13, 14, 15, 16, 17, 25] (by decide) rfl⟩ rfl rfl hl.1 rfl (lv_room (Nat.le_of_ble_eq_true rfl)) dL_law_582 ⟨hcells, hslots⟩) hP hD hS hA [0, 1, 2, 3, 4, 5, 6, 7, 8, 9, 10, 11, 12, 13, 14, 15, 16, 17, 25] [18, 19, 20, 21, 22, 23, 24] [7, 8, 9, 10, 11, 12, 13, 14, 15, 16, 17, 18, 19, 20, 21, 22, 23, 24, 0, 1, 2, 3, 4, 5, 6, 25] rfl rfl (by decide) (by decide) (by decide) (fun _ => rfl) (fun k u H locs hw hP hD hS => ?_)
  have hP : va_P D vwCl (wZ cy a key val ord tk cp efi ela eco ene ldp dp dbl hlv spl mrg lfi lla lco lne lev ptr llo lhi lsp bb sto vas tk cp llo lhi dpt dp ext dbl hlv spl mrg lin lev ptr lsp mov thr cq oo u) H := hP
  have hD : va_D (fun q : Nat => s.heap.size ≤ q) (wZ cy a key val ord tk cp efi ela eco ene ldp dp dbl hlv spl mrg lfi lla lco lne lev ptr llo lhi lsp bb sto vas tk cp llo lhi dpt dp ext dbl hlv spl mrg lin lev ptr lsp mov thr cq oo u) := hD
  refine lv_istore (lv' := [(5, .int k), (0, .ref b), (1, .ref (a 0)), (2, .ref (bb 0)), (3, .ref oo), (4, .int (nI i))]) hx hb dL_law_585 hl (by decide) rfl (fun ls hl => ?_)
  refine lv_aload_n hx hb dL_law_587 rfl (lv_at hl 3 rfl) ?_
  refine lv_aload_n hx hb dL_law_588 rfl (lv_at hl 1 rfl) ?_
  refine lv_iload hx hb dL_law_589 (lv_at hl 5 rfl) ?_
  refine lv_iconst (v := nI 1) hx hb dL_law_591 (by decide) ?_
  refine tq_iadd C dL_law_592 ?_
  refine va_sld hx hb hX hbl hbA hS (vp_inN (by omega) hL) dL_law_593 ?_
  rw [← hp1]
  refine tq_callI (W3 := fun v => (wZ cy a key val ord tk cp efi ela eco ene ldp dp dbl hlv spl mrg lfi lla lco lne lev ptr llo lhi lsp bb sto vas tk cp llo lhi dpt dp ext dbl hlv spl mrg lin lev ptr lsp mov v cq oo u)) (wr := [0, 1, 2, 3, 4, 5, 6, 7, 8, 9, 10, 11, 12, 13, 14, 15, 16, 17, 25].filterMap (fun i => (wZ cy a key val ord tk cp efi ela eco ene ldp dp dbl hlv spl mrg lfi lla lco lne lev ptr llo lhi lsp bb sto vas tk cp llo lhi dpt dp ext dbl hlv spl mrg lin lev ptr lsp mov thr cq oo u)[i]?)) (va_runV C.fix (As := [.int p1]) (rest := []) (c_X5_hashOf l D cy bb sto vas tk cp llo lhi dpt dp ext dbl hlv spl mrg lin lev ptr lsp mov thr p1  H.size) (tq_cV (n := 1) C ml_L_114 im_X5_hashOf se_X5_hashOf ini_X5 cd_X5_hashOf ⟨by decide, by decide, by decide +kernel⟩ ⟨Nat.le_of_ble_eq_true rfl, Nat.le_of_ble_eq_true rfl⟩) ⟨tq_Pc.blind, va_recv hK hP (ci := 5) (q0 := 18) rfl rfl, tq_preC C hK1 (hP.sub [18, 19, 20, 21, 22, 23, 24] rfl) (hD.sub [18, 19, 20, 21, 22, 23, 24] (by decide) rfl)⟩ rfl rfl hl.1 rfl (lv_room (Nat.le_of_ble_eq_true rfl)) dL_law_594 ⟨hcells, hslots⟩) hP hD hS hA [18, 19, 20, 21, 22, 23, 24] [0, 1, 2, 3, 4, 5, 6, 7, 8, 9, 10, 11, 12, 13, 14, 15, 16, 17, 25] [0, 1, 2, 3, 4, 5, 6, 7, 8, 9, 10, 11, 12, 13, 14, 15, 16, 17, 19, 20, 21, 22, 23, 24, 25, 18] rfl rfl (by decide) (by decide) (by decide) (fun _ => rfl) (fun r2 v H locs hm hP hD hS => ?_)
  have hP : va_P D vwCl (wZ cy a key val ord tk cp efi ela eco ene ldp dp dbl hlv spl mrg lfi lla lco lne lev ptr llo lhi lsp bb sto vas tk cp llo lhi dpt dp ext dbl hlv spl mrg lin lev ptr lsp mov v cq oo u) H := hP
  have hD : va_D (fun q : Nat => s.heap.size ≤ q) (wZ cy a key val ord tk cp efi ela eco ene ldp dp dbl hlv spl mrg lfi lla lco lne lev ptr llo lhi lsp bb sto vas tk cp llo lhi dpt dp ext dbl hlv spl mrg lin lev ptr lsp mov v cq oo u) := hD
  refine lv_istore (lv' := [(6, .int r2), (5, .int k), (0, .ref b), (1, .ref (a 0)), (2, .ref (bb 0)), (3, .ref oo), (4, .int (nI i))]) hx hb dL_law_597 hl (by decide) rfl (fun ls hl => ?_)
  refine lv_aload_n hx hb dL_law_599 rfl (lv_at hl 4 rfl) ?_
  have hq : nI v = k ∧ (k = nI 0 → u 0 = r2.toInt64) := meet_read (X := tqIAE) (by decide) hw hm meet_key (ex_fun (by decide))
  have hq2 : INV cy cq a bb oo (wZ cy a key val ord tk cp efi ela eco ene ldp dp dbl hlv spl mrg lfi lla lco lne lev ptr llo lhi lsp bb sto vas tk cp llo lhi dpt dp ext dbl hlv spl mrg lin lev ptr lsp mov v cq oo u) := ⟨key, val, ord, tk, cp, efi, ela, eco, ene, ldp, dp, dbl, hlv, spl, mrg, lfi, lla, lco, lne, lev, ptr, llo, lhi, lsp, dep, E, L9, sto, vas, dpt, ext, lin, mov, v, u, rfl, hCR, hMR, hMC⟩
  refine tq_callF (va_runV C.fix (As := []) (rest := []) (c_X5_thrown l D cy bb sto vas tk cp llo lhi dpt dp ext dbl hlv spl mrg lin lev ptr lsp mov v  ) (tq_cV (n := 0) C ml_L_84 im_X5_thrown se_X5_thrown ini_X5 cd_X5_thrown ⟨by decide, by decide, by decide +kernel⟩ ⟨Nat.le_of_ble_eq_true rfl, Nat.le_of_ble_eq_true rfl⟩) ⟨tq_Pf.blind, va_recv hK hP (ci := 5) (q0 := 18) rfl rfl, tq_preF C hK1 (hP.sub [18, 19, 20, 21, 22, 23, 24] rfl)⟩ rfl rfl hl.1 rfl (lv_room (Nat.le_of_ble_eq_true rfl)) dL_law_600 ⟨hcells, hslots⟩) (fun r9 hr9 => ?_)
  obtain rfl := hr9
  refine lv_iload hx hb dL_law_603 (lv_at hl 1 rfl) ?_
  refine lv_icmp_eq (tgt := 610) hx hb dL_law_605 (by decide) (fun _ => ?_) (fun h9 => absurd hq.1 h9)
  refine lv_iload hx hb dL_law_610 (lv_at hl 1 rfl) ?_
  refine lv_if_ne (tgt := 627) hx hb dL_law_612 (by decide) (fun _ => ?_) (fun h9 => ?_)
  · refine lv_goto (tgt := 1495) hx hb dL_law_627 (by decide) ?_
    exact kk _ _ _ _ hq2 hP hD hS (lv_sub hl [2, 3, 4, 5, 6] rfl)
  · have h8 : k = nI 0 := by first | exact h9 | exact Classical.not_not.mp h9
    refine lv_aload_n hx hb dL_law_615 rfl (lv_at hl 5 rfl) ?_
    refine lv_iconst (v := nI 0) hx hb dL_law_616 (by decide) ?_
    refine va_lald hx hb hK hP 25 1 rfl rfl tq_in0 dL_law_617 ?_
    rw [show u (nI 0).toNatClampNeg = r2.toInt64 from hq.2 h8]
    refine lv_iload hx hb dL_law_618 (lv_at hl 0 rfl) ?_
    refine lv_i2l (v := r2.toInt64) hx hb dL_law_620 rfl ?_
    refine lv_lcmp0 hx hb dL_law_621 ?_
    refine lv_if_eq (tgt := 627) hx hb dL_law_622 (by decide) (fun _ => ?_) (fun h7 => absurd rfl h7)
    refine lv_goto (tgt := 1495) hx hb dL_law_627 (by decide) ?_
    exact kk _ _ _ _ hq2 hP hD hS (lv_sub hl [2, 3, 4, 5, 6] rfl)
set_option maxHeartbeats 4000000 in
set_option maxRecDepth 100000 in
theorem law_localDepth {p : Program} {l : Launch} (hl9 : l.stackTraces = false) {e : Env} {s : State} {m : MethodId} {below : List Frame} {meth : Method} {c : Code} {D : va_G} {cy cq : ClassId} {b N9 i : Nat} {xs : Nat → Int32} {args : Array Value} {Q : State → Prop} {cells slots : Nat} {a bb : Nat → Nat} {oo : Nat} {ws : va_W} {H : Heap} {locs : List Loc} {ls : Array Slot} (C : tq_C p s m meth c "TwinHashTablesLaw" cL_law 7 (some .boolean)) (hN : va_Nc tqISE tqIAE s) (hK : va_K D vwCl (tq_ty2 cy cq) s) (hE : tq_E (fun q : Nat => s.heap.size ≤ q) s s.heap) (hX : va_X b N9 xs s s.heap) (hbl : b < s.heap.size) (hL : N9 ≤ 1536) (hi : i + 2 < N9) (hcells : cells + 1 ≤ 1053) (hslots : slots + 6 ≤ 11515) (hI : INV cy cq a bb oo ws) (hP : va_P D vwCl ws H) (hD : va_D (fun q : Nat => s.heap.size ≤ q) ws) (hS : va_S (fun q : Nat => s.heap.size ≤ q) s.heap H locs) (hl : lv_has ls 7 [(0, .ref b), (1, .ref (a 0)), (2, .ref (bb 0)), (3, .ref oo), (4, .int (nI i))]) (kk : ∀ (ws : va_W) (H : Heap) (locs : List Loc) (ls : Array Slot), INV cy cq a bb oo ws → va_P D vwCl ws H → va_D (fun q : Nat => s.heap.size ≤ q) ws → va_S (fun q : Nat => s.heap.size ≤ q) s.heap H locs → lv_has ls 7 [(0, .ref b), (1, .ref (a 0)), (2, .ref (bb 0)), (3, .ref oo), (4, .int (nI i))] → W p l e room_1 s m args below meth c H locs (cells + 1) (slots + 6) Q (F0 m 1495 ls [])) : W p l e room_1 s m args below meth c H locs cells slots Q (F0 m 656 ls []) := by
  obtain ⟨key, val, ord, tk, cp, efi, ela, eco, ene, ldp, dp, dbl, hlv, spl, mrg, lfi, lla, lco, lne, lev, ptr, llo, lhi, lsp, dep, E, L9, sto, vas, dpt, ext, lin, mov, thr, ov, rfl, hCR, hMR, hMC⟩ := hI
  obtain ⟨hx, hb, hml, hown, hrt, hlk, hT⟩ := id C
  have hK1 : va_K D vwCl (tq_ty cy) s := hK.sub [0] rfl
  have hA : ∀ q : Nat, s.heap.size ≤ q → (fun q : Nat => s.heap.size ≤ q) q := fun _ h => h
  have hbA : ¬ (fun q : Nat => s.heap.size ≤ q) b := Nat.not_le.mpr hbl
  obtain ⟨p1, hp1⟩ : ∃ z, z = xs (nI (i + 1)).toNatClampNeg := ⟨_, rfl⟩
  refine lv_aload_n hx hb dL_law_656 rfl (lv_at hl 1 rfl) ?_
  refine lv_aload_n hx hb dL_law_657 rfl (lv_at hl 0 rfl) ?_
  refine lv_iload hx hb dL_law_658 (lv_at hl 4 rfl) ?_
  refine lv_iconst (v := nI 1) hx hb dL_law_660 (by decide) ?_
  refine tq_iadd C dL_law_661 ?_
  refine va_sld hx hb hX hbl hbA hS (vp_inN (by omega) hL) dL_law_662 ?_
  rw [← hp1]
  refine lv_aload_n hx hb dL_law_663 rfl (lv_at hl 3 rfl) ?_
  refine tq_callI (W3 := fun u => (wZ cy a key val ord tk cp efi ela eco ene ldp dp dbl hlv spl mrg lfi lla lco lne lev ptr llo lhi lsp bb sto vas tk cp llo lhi dpt dp ext dbl hlv spl mrg lin lev ptr lsp mov thr cq oo u)) (wr := [18, 19, 20, 21, 22, 23, 24].filterMap (fun i => (wZ cy a key val ord tk cp efi ela eco ene ldp dp dbl hlv spl mrg lfi lla lco lne lev ptr llo lhi lsp bb sto vas tk cp llo lhi dpt dp ext dbl hlv spl mrg lin lev ptr lsp mov thr cq oo ov)[i]?)) (vx_runSW C.fix (As := [.ref (a 0), .int p1, .ref oo]) (rest := []) (c_L_localDepth l hl9 D cy cq a key val ord tk cp efi ela eco ene ldp dp dbl hlv spl mrg lfi lla lco lne lev ptr llo lhi lsp oo ov p1 dep E L9 hCR H.size) (tq_cW (n := 3) C ml_L_123 sm_L_localDepth ini_L cw_L_localDepth ⟨by decide, by decide, by decide +kernel⟩ ⟨Nat.le_of_ble_eq_true rfl, Nat.le_of_ble_eq_true rfl⟩) ⟨tq_Pl.blind, tq_preL C hN hK hP hD hS hA hE [0, 1, 2, 3, 4, 5, 6, 7, 8, 9, 10, 11, 12, 13, 14, 15, 16, 17, 25] (by decide) rfl⟩ rfl rfl hl.1 rfl (lv_room (Nat.le_of_ble_eq_true rfl)) dL_law_664 ⟨hcells, hslots⟩) hP hD hS hA [0, 1, 2, 3, 4, 5, 6, 7, 8, 9, 10, 11, 12, 13, 14, 15, 16, 17, 25] [18, 19, 20, 21, 22, 23, 24] [7, 8, 9, 10, 11, 12, 13, 14, 15, 16, 17, 18, 19, 20, 21, 22, 23, 24, 0, 1, 2, 3, 4, 5, 6, 25] rfl rfl (by decide) (by decide) (by decide) (fun _ => rfl) (fun k u H locs hw hP hD hS => ?_)
  have hP : va_P D vwCl (wZ cy a key val ord tk cp efi ela eco ene ldp dp dbl hlv spl mrg lfi lla lco lne lev ptr llo lhi lsp bb sto vas tk cp llo lhi dpt dp ext dbl hlv spl mrg lin lev ptr lsp mov thr cq oo u) H := hP
  have hD : va_D (fun q : Nat => s.heap.size ≤ q) (wZ cy a key val ord tk cp efi ela eco ene ldp dp dbl hlv spl mrg lfi lla lco lne lev ptr llo lhi lsp bb sto vas tk cp llo lhi dpt dp ext dbl hlv spl mrg lin lev ptr lsp mov thr cq oo u) := hD
  refine lv_istore (lv' := [(5, .int k), (0, .ref b), (1, .ref (a 0)), (2, .ref (bb 0)), (3, .ref oo), (4, .int (nI i))]) hx hb dL_law_667 hl (by decide) rfl (fun ls hl => ?_)
  refine lv_aload_n hx hb dL_law_669 rfl (lv_at hl 3 rfl) ?_
  refine lv_aload_n hx hb dL_law_670 rfl (lv_at hl 1 rfl) ?_
  refine lv_iload hx hb dL_law_671 (lv_at hl 5 rfl) ?_
  refine lv_iconst (v := nI 1) hx hb dL_law_673 (by decide) ?_
  refine tq_iadd C dL_law_674 ?_
  refine va_sld hx hb hX hbl hbA hS (vp_inN (by omega) hL) dL_law_675 ?_
  rw [← hp1]
  refine tq_callI (W3 := fun v => (wZ cy a key val ord tk cp efi ela eco ene ldp dp dbl hlv spl mrg lfi lla lco lne lev ptr llo lhi lsp bb sto vas tk cp llo lhi dpt dp ext dbl hlv spl mrg lin lev ptr lsp mov v cq oo u)) (wr := [0, 1, 2, 3, 4, 5, 6, 7, 8, 9, 10, 11, 12, 13, 14, 15, 16, 17, 25].filterMap (fun i => (wZ cy a key val ord tk cp efi ela eco ene ldp dp dbl hlv spl mrg lfi lla lco lne lev ptr llo lhi lsp bb sto vas tk cp llo lhi dpt dp ext dbl hlv spl mrg lin lev ptr lsp mov thr cq oo u)[i]?)) (va_runV C.fix (As := [.int p1]) (rest := []) (c_X5_localDepth l D cy bb sto vas tk cp llo lhi dpt dp ext dbl hlv spl mrg lin lev ptr lsp mov thr p1 (stl key val ord tk) dep E L9 hMR hMC H.size) (tq_cV (n := 1) C ml_L_125 im_X5_localDepth se_X5_localDepth ini_X5 cd_X5_localDepth ⟨by decide, by decide, by decide +kernel⟩ ⟨Nat.le_of_ble_eq_true rfl, Nat.le_of_ble_eq_true rfl⟩) ⟨tq_Pc.blind, va_recv hK hP (ci := 5) (q0 := 18) rfl rfl, tq_preC C hK1 (hP.sub [18, 19, 20, 21, 22, 23, 24] rfl) (hD.sub [18, 19, 20, 21, 22, 23, 24] (by decide) rfl)⟩ rfl rfl hl.1 rfl (lv_room (Nat.le_of_ble_eq_true rfl)) dL_law_676 ⟨hcells, hslots⟩) hP hD hS hA [18, 19, 20, 21, 22, 23, 24] [0, 1, 2, 3, 4, 5, 6, 7, 8, 9, 10, 11, 12, 13, 14, 15, 16, 17, 25] [0, 1, 2, 3, 4, 5, 6, 7, 8, 9, 10, 11, 12, 13, 14, 15, 16, 17, 19, 20, 21, 22, 23, 24, 25, 18] rfl rfl (by decide) (by decide) (by decide) (fun _ => rfl) (fun r2 v H locs hm hP hD hS => ?_)
  have hP : va_P D vwCl (wZ cy a key val ord tk cp efi ela eco ene ldp dp dbl hlv spl mrg lfi lla lco lne lev ptr llo lhi lsp bb sto vas tk cp llo lhi dpt dp ext dbl hlv spl mrg lin lev ptr lsp mov v cq oo u) H := hP
  have hD : va_D (fun q : Nat => s.heap.size ≤ q) (wZ cy a key val ord tk cp efi ela eco ene ldp dp dbl hlv spl mrg lfi lla lco lne lev ptr llo lhi lsp bb sto vas tk cp llo lhi dpt dp ext dbl hlv spl mrg lin lev ptr lsp mov v cq oo u) := hD
  refine lv_istore (lv' := [(6, .int r2), (5, .int k), (0, .ref b), (1, .ref (a 0)), (2, .ref (bb 0)), (3, .ref oo), (4, .int (nI i))]) hx hb dL_law_679 hl (by decide) rfl (fun ls hl => ?_)
  refine lv_aload_n hx hb dL_law_681 rfl (lv_at hl 4 rfl) ?_
  have hq : nI v = k ∧ (k = nI 0 → u 0 = r2.toInt64) := meet_read (X := "java/lang/IndexOutOfBoundsException") (by decide) hw hm meet_ex (ex_fun (by have := hMC.1.1; have := p8 this; omega))
  have hq2 : INV cy cq a bb oo (wZ cy a key val ord tk cp efi ela eco ene ldp dp dbl hlv spl mrg lfi lla lco lne lev ptr llo lhi lsp bb sto vas tk cp llo lhi dpt dp ext dbl hlv spl mrg lin lev ptr lsp mov v cq oo u) := ⟨key, val, ord, tk, cp, efi, ela, eco, ene, ldp, dp, dbl, hlv, spl, mrg, lfi, lla, lco, lne, lev, ptr, llo, lhi, lsp, dep, E, L9, sto, vas, dpt, ext, lin, mov, v, u, rfl, hCR, hMR, hMC⟩
  refine tq_callF (va_runV C.fix (As := []) (rest := []) (c_X5_thrown l D cy bb sto vas tk cp llo lhi dpt dp ext dbl hlv spl mrg lin lev ptr lsp mov v  ) (tq_cV (n := 0) C ml_L_84 im_X5_thrown se_X5_thrown ini_X5 cd_X5_thrown ⟨by decide, by decide, by decide +kernel⟩ ⟨Nat.le_of_ble_eq_true rfl, Nat.le_of_ble_eq_true rfl⟩) ⟨tq_Pf.blind, va_recv hK hP (ci := 5) (q0 := 18) rfl rfl, tq_preF C hK1 (hP.sub [18, 19, 20, 21, 22, 23, 24] rfl)⟩ rfl rfl hl.1 rfl (lv_room (Nat.le_of_ble_eq_true rfl)) dL_law_682 ⟨hcells, hslots⟩) (fun r9 hr9 => ?_)
  obtain rfl := hr9
  refine lv_iload hx hb dL_law_685 (lv_at hl 1 rfl) ?_
  refine lv_icmp_eq (tgt := 692) hx hb dL_law_687 (by decide) (fun _ => ?_) (fun h9 => absurd hq.1 h9)
  refine lv_iload hx hb dL_law_692 (lv_at hl 1 rfl) ?_
  refine lv_if_ne (tgt := 709) hx hb dL_law_694 (by decide) (fun _ => ?_) (fun h9 => ?_)
  · refine lv_goto (tgt := 1495) hx hb dL_law_709 (by decide) ?_
    exact kk _ _ _ _ hq2 hP hD hS (lv_sub hl [2, 3, 4, 5, 6] rfl)
  · have h8 : k = nI 0 := by first | exact h9 | exact Classical.not_not.mp h9
    refine lv_aload_n hx hb dL_law_697 rfl (lv_at hl 5 rfl) ?_
    refine lv_iconst (v := nI 0) hx hb dL_law_698 (by decide) ?_
    refine va_lald hx hb hK hP 25 1 rfl rfl tq_in0 dL_law_699 ?_
    rw [show u (nI 0).toNatClampNeg = r2.toInt64 from hq.2 h8]
    refine lv_iload hx hb dL_law_700 (lv_at hl 0 rfl) ?_
    refine lv_i2l (v := r2.toInt64) hx hb dL_law_702 rfl ?_
    refine lv_lcmp0 hx hb dL_law_703 ?_
    refine lv_if_eq (tgt := 709) hx hb dL_law_704 (by decide) (fun _ => ?_) (fun h7 => absurd rfl h7)
    refine lv_goto (tgt := 1495) hx hb dL_law_709 (by decide) ?_
    exact kk _ _ _ _ hq2 hP hD hS (lv_sub hl [2, 3, 4, 5, 6] rfl)
set_option maxHeartbeats 4000000 in
set_option maxRecDepth 100000 in
theorem law_bucketSize {p : Program} {l : Launch} (hl9 : l.stackTraces = false) {e : Env} {s : State} {m : MethodId} {below : List Frame} {meth : Method} {c : Code} {D : va_G} {cy cq : ClassId} {b N9 i : Nat} {xs : Nat → Int32} {args : Array Value} {Q : State → Prop} {cells slots : Nat} {a bb : Nat → Nat} {oo : Nat} {ws : va_W} {H : Heap} {locs : List Loc} {ls : Array Slot} (C : tq_C p s m meth c "TwinHashTablesLaw" cL_law 7 (some .boolean)) (hN : va_Nc tqISE tqIAE s) (hK : va_K D vwCl (tq_ty2 cy cq) s) (hE : tq_E (fun q : Nat => s.heap.size ≤ q) s s.heap) (hX : va_X b N9 xs s s.heap) (hbl : b < s.heap.size) (hL : N9 ≤ 1536) (hi : i + 2 < N9) (hcells : cells + 1 ≤ 1053) (hslots : slots + 6 ≤ 11515) (hI : INV cy cq a bb oo ws) (hP : va_P D vwCl ws H) (hD : va_D (fun q : Nat => s.heap.size ≤ q) ws) (hS : va_S (fun q : Nat => s.heap.size ≤ q) s.heap H locs) (hl : lv_has ls 7 [(0, .ref b), (1, .ref (a 0)), (2, .ref (bb 0)), (3, .ref oo), (4, .int (nI i))]) (kk : ∀ (ws : va_W) (H : Heap) (locs : List Loc) (ls : Array Slot), INV cy cq a bb oo ws → va_P D vwCl ws H → va_D (fun q : Nat => s.heap.size ≤ q) ws → va_S (fun q : Nat => s.heap.size ≤ q) s.heap H locs → lv_has ls 7 [(0, .ref b), (1, .ref (a 0)), (2, .ref (bb 0)), (3, .ref oo), (4, .int (nI i))] → W p l e room_1 s m args below meth c H locs (cells + 1) (slots + 6) Q (F0 m 1495 ls [])) : W p l e room_1 s m args below meth c H locs cells slots Q (F0 m 712 ls []) := by
  obtain ⟨key, val, ord, tk, cp, efi, ela, eco, ene, ldp, dp, dbl, hlv, spl, mrg, lfi, lla, lco, lne, lev, ptr, llo, lhi, lsp, dep, E, L9, sto, vas, dpt, ext, lin, mov, thr, ov, rfl, hCR, hMR, hMC⟩ := hI
  obtain ⟨hx, hb, hml, hown, hrt, hlk, hT⟩ := id C
  have hK1 : va_K D vwCl (tq_ty cy) s := hK.sub [0] rfl
  have hA : ∀ q : Nat, s.heap.size ≤ q → (fun q : Nat => s.heap.size ≤ q) q := fun _ h => h
  have hbA : ¬ (fun q : Nat => s.heap.size ≤ q) b := Nat.not_le.mpr hbl
  obtain ⟨p1, hp1⟩ : ∃ z, z = xs (nI (i + 1)).toNatClampNeg := ⟨_, rfl⟩
  refine lv_aload_n hx hb dL_law_712 rfl (lv_at hl 1 rfl) ?_
  refine lv_aload_n hx hb dL_law_713 rfl (lv_at hl 0 rfl) ?_
  refine lv_iload hx hb dL_law_714 (lv_at hl 4 rfl) ?_
  refine lv_iconst (v := nI 1) hx hb dL_law_716 (by decide) ?_
  refine tq_iadd C dL_law_717 ?_
  refine va_sld hx hb hX hbl hbA hS (vp_inN (by omega) hL) dL_law_718 ?_
  rw [← hp1]
  refine lv_aload_n hx hb dL_law_719 rfl (lv_at hl 3 rfl) ?_
  refine tq_callI (W3 := fun u => (wZ cy a key val ord tk cp efi ela eco ene ldp dp dbl hlv spl mrg lfi lla lco lne lev ptr llo lhi lsp bb sto vas tk cp llo lhi dpt dp ext dbl hlv spl mrg lin lev ptr lsp mov thr cq oo u)) (wr := [18, 19, 20, 21, 22, 23, 24].filterMap (fun i => (wZ cy a key val ord tk cp efi ela eco ene ldp dp dbl hlv spl mrg lfi lla lco lne lev ptr llo lhi lsp bb sto vas tk cp llo lhi dpt dp ext dbl hlv spl mrg lin lev ptr lsp mov thr cq oo ov)[i]?)) (vx_runSW C.fix (As := [.ref (a 0), .int p1, .ref oo]) (rest := []) (c_L_bucketSize l hl9 D cy cq a key val ord tk cp efi ela eco ene ldp dp dbl hlv spl mrg lfi lla lco lne lev ptr llo lhi lsp oo ov p1 dep E L9 hCR H.size) (tq_cW (n := 3) C ml_L_126 sm_L_bucketSize ini_L cw_L_bucketSize ⟨by decide, by decide, by decide +kernel⟩ ⟨Nat.le_of_ble_eq_true rfl, Nat.le_of_ble_eq_true rfl⟩) ⟨tq_Pl.blind, tq_preL C hN hK hP hD hS hA hE [0, 1, 2, 3, 4, 5, 6, 7, 8, 9, 10, 11, 12, 13, 14, 15, 16, 17, 25] (by decide) rfl⟩ rfl rfl hl.1 rfl (lv_room (Nat.le_of_ble_eq_true rfl)) dL_law_720 ⟨hcells, hslots⟩) hP hD hS hA [0, 1, 2, 3, 4, 5, 6, 7, 8, 9, 10, 11, 12, 13, 14, 15, 16, 17, 25] [18, 19, 20, 21, 22, 23, 24] [7, 8, 9, 10, 11, 12, 13, 14, 15, 16, 17, 18, 19, 20, 21, 22, 23, 24, 0, 1, 2, 3, 4, 5, 6, 25] rfl rfl (by decide) (by decide) (by decide) (fun _ => rfl) (fun k u H locs hw hP hD hS => ?_)
  have hP : va_P D vwCl (wZ cy a key val ord tk cp efi ela eco ene ldp dp dbl hlv spl mrg lfi lla lco lne lev ptr llo lhi lsp bb sto vas tk cp llo lhi dpt dp ext dbl hlv spl mrg lin lev ptr lsp mov thr cq oo u) H := hP
  have hD : va_D (fun q : Nat => s.heap.size ≤ q) (wZ cy a key val ord tk cp efi ela eco ene ldp dp dbl hlv spl mrg lfi lla lco lne lev ptr llo lhi lsp bb sto vas tk cp llo lhi dpt dp ext dbl hlv spl mrg lin lev ptr lsp mov thr cq oo u) := hD
  refine lv_istore (lv' := [(5, .int k), (0, .ref b), (1, .ref (a 0)), (2, .ref (bb 0)), (3, .ref oo), (4, .int (nI i))]) hx hb dL_law_723 hl (by decide) rfl (fun ls hl => ?_)
  refine lv_aload_n hx hb dL_law_725 rfl (lv_at hl 3 rfl) ?_
  refine lv_aload_n hx hb dL_law_726 rfl (lv_at hl 1 rfl) ?_
  refine lv_iload hx hb dL_law_727 (lv_at hl 5 rfl) ?_
  refine lv_iconst (v := nI 1) hx hb dL_law_729 (by decide) ?_
  refine tq_iadd C dL_law_730 ?_
  refine va_sld hx hb hX hbl hbA hS (vp_inN (by omega) hL) dL_law_731 ?_
  rw [← hp1]
  refine tq_callI (W3 := fun v => (wZ cy a key val ord tk cp efi ela eco ene ldp dp dbl hlv spl mrg lfi lla lco lne lev ptr llo lhi lsp bb sto vas tk cp llo lhi dpt dp ext dbl hlv spl mrg lin lev ptr lsp mov v cq oo u)) (wr := [0, 1, 2, 3, 4, 5, 6, 7, 8, 9, 10, 11, 12, 13, 14, 15, 16, 17, 25].filterMap (fun i => (wZ cy a key val ord tk cp efi ela eco ene ldp dp dbl hlv spl mrg lfi lla lco lne lev ptr llo lhi lsp bb sto vas tk cp llo lhi dpt dp ext dbl hlv spl mrg lin lev ptr lsp mov thr cq oo u)[i]?)) (va_runV C.fix (As := [.int p1]) (rest := []) (c_X5_bucketSize l D cy bb sto vas tk cp llo lhi dpt dp ext dbl hlv spl mrg lin lev ptr lsp mov thr p1 (stl key val ord tk) dep E L9 hMR hMC H.size) (tq_cV (n := 1) C ml_L_128 im_X5_bucketSize se_X5_bucketSize ini_X5 cd_X5_bucketSize ⟨by decide, by decide, by decide +kernel⟩ ⟨Nat.le_of_ble_eq_true rfl, Nat.le_of_ble_eq_true rfl⟩) ⟨tq_Pc.blind, va_recv hK hP (ci := 5) (q0 := 18) rfl rfl, tq_preC C hK1 (hP.sub [18, 19, 20, 21, 22, 23, 24] rfl) (hD.sub [18, 19, 20, 21, 22, 23, 24] (by decide) rfl)⟩ rfl rfl hl.1 rfl (lv_room (Nat.le_of_ble_eq_true rfl)) dL_law_732 ⟨hcells, hslots⟩) hP hD hS hA [18, 19, 20, 21, 22, 23, 24] [0, 1, 2, 3, 4, 5, 6, 7, 8, 9, 10, 11, 12, 13, 14, 15, 16, 17, 25] [0, 1, 2, 3, 4, 5, 6, 7, 8, 9, 10, 11, 12, 13, 14, 15, 16, 17, 19, 20, 21, 22, 23, 24, 25, 18] rfl rfl (by decide) (by decide) (by decide) (fun _ => rfl) (fun r2 v H locs hm hP hD hS => ?_)
  have hP : va_P D vwCl (wZ cy a key val ord tk cp efi ela eco ene ldp dp dbl hlv spl mrg lfi lla lco lne lev ptr llo lhi lsp bb sto vas tk cp llo lhi dpt dp ext dbl hlv spl mrg lin lev ptr lsp mov v cq oo u) H := hP
  have hD : va_D (fun q : Nat => s.heap.size ≤ q) (wZ cy a key val ord tk cp efi ela eco ene ldp dp dbl hlv spl mrg lfi lla lco lne lev ptr llo lhi lsp bb sto vas tk cp llo lhi dpt dp ext dbl hlv spl mrg lin lev ptr lsp mov v cq oo u) := hD
  refine lv_istore (lv' := [(6, .int r2), (5, .int k), (0, .ref b), (1, .ref (a 0)), (2, .ref (bb 0)), (3, .ref oo), (4, .int (nI i))]) hx hb dL_law_735 hl (by decide) rfl (fun ls hl => ?_)
  refine lv_aload_n hx hb dL_law_737 rfl (lv_at hl 4 rfl) ?_
  have hq : nI v = k ∧ (k = nI 0 → u 0 = r2.toInt64) := meet_read (X := "java/lang/IndexOutOfBoundsException") (by decide) hw hm meet_ex (ex_fun (by have := hMC.1.1; have := p8 this; omega))
  have hq2 : INV cy cq a bb oo (wZ cy a key val ord tk cp efi ela eco ene ldp dp dbl hlv spl mrg lfi lla lco lne lev ptr llo lhi lsp bb sto vas tk cp llo lhi dpt dp ext dbl hlv spl mrg lin lev ptr lsp mov v cq oo u) := ⟨key, val, ord, tk, cp, efi, ela, eco, ene, ldp, dp, dbl, hlv, spl, mrg, lfi, lla, lco, lne, lev, ptr, llo, lhi, lsp, dep, E, L9, sto, vas, dpt, ext, lin, mov, v, u, rfl, hCR, hMR, hMC⟩
  refine tq_callF (va_runV C.fix (As := []) (rest := []) (c_X5_thrown l D cy bb sto vas tk cp llo lhi dpt dp ext dbl hlv spl mrg lin lev ptr lsp mov v  ) (tq_cV (n := 0) C ml_L_84 im_X5_thrown se_X5_thrown ini_X5 cd_X5_thrown ⟨by decide, by decide, by decide +kernel⟩ ⟨Nat.le_of_ble_eq_true rfl, Nat.le_of_ble_eq_true rfl⟩) ⟨tq_Pf.blind, va_recv hK hP (ci := 5) (q0 := 18) rfl rfl, tq_preF C hK1 (hP.sub [18, 19, 20, 21, 22, 23, 24] rfl)⟩ rfl rfl hl.1 rfl (lv_room (Nat.le_of_ble_eq_true rfl)) dL_law_738 ⟨hcells, hslots⟩) (fun r9 hr9 => ?_)
  obtain rfl := hr9
  refine lv_iload hx hb dL_law_741 (lv_at hl 1 rfl) ?_
  refine lv_icmp_eq (tgt := 748) hx hb dL_law_743 (by decide) (fun _ => ?_) (fun h9 => absurd hq.1 h9)
  refine lv_iload hx hb dL_law_748 (lv_at hl 1 rfl) ?_
  refine lv_if_ne (tgt := 765) hx hb dL_law_750 (by decide) (fun _ => ?_) (fun h9 => ?_)
  · refine lv_goto (tgt := 1495) hx hb dL_law_765 (by decide) ?_
    exact kk _ _ _ _ hq2 hP hD hS (lv_sub hl [2, 3, 4, 5, 6] rfl)
  · have h8 : k = nI 0 := by first | exact h9 | exact Classical.not_not.mp h9
    refine lv_aload_n hx hb dL_law_753 rfl (lv_at hl 5 rfl) ?_
    refine lv_iconst (v := nI 0) hx hb dL_law_754 (by decide) ?_
    refine va_lald hx hb hK hP 25 1 rfl rfl tq_in0 dL_law_755 ?_
    rw [show u (nI 0).toNatClampNeg = r2.toInt64 from hq.2 h8]
    refine lv_iload hx hb dL_law_756 (lv_at hl 0 rfl) ?_
    refine lv_i2l (v := r2.toInt64) hx hb dL_law_758 rfl ?_
    refine lv_lcmp0 hx hb dL_law_759 ?_
    refine lv_if_eq (tgt := 765) hx hb dL_law_760 (by decide) (fun _ => ?_) (fun h7 => absurd rfl h7)
    refine lv_goto (tgt := 1495) hx hb dL_law_765 (by decide) ?_
    exact kk _ _ _ _ hq2 hP hD hS (lv_sub hl [2, 3, 4, 5, 6] rfl)
set_option maxHeartbeats 4000000 in
set_option maxRecDepth 100000 in
theorem law_keyAt {p : Program} {l : Launch} (hl9 : l.stackTraces = false) {e : Env} {s : State} {m : MethodId} {below : List Frame} {meth : Method} {c : Code} {D : va_G} {cy cq : ClassId} {b N9 i : Nat} {xs : Nat → Int32} {args : Array Value} {Q : State → Prop} {cells slots : Nat} {a bb : Nat → Nat} {oo : Nat} {ws : va_W} {H : Heap} {locs : List Loc} {ls : Array Slot} (C : tq_C p s m meth c "TwinHashTablesLaw" cL_law 7 (some .boolean)) (hN : va_Nc tqISE tqIAE s) (hK : va_K D vwCl (tq_ty2 cy cq) s) (hE : tq_E (fun q : Nat => s.heap.size ≤ q) s s.heap) (hX : va_X b N9 xs s s.heap) (hbl : b < s.heap.size) (hL : N9 ≤ 1536) (hi : i + 2 < N9) (hcells : cells + 1 ≤ 1053) (hslots : slots + 6 ≤ 11515) (hI : INV cy cq a bb oo ws) (hP : va_P D vwCl ws H) (hD : va_D (fun q : Nat => s.heap.size ≤ q) ws) (hS : va_S (fun q : Nat => s.heap.size ≤ q) s.heap H locs) (hl : lv_has ls 7 [(0, .ref b), (1, .ref (a 0)), (2, .ref (bb 0)), (3, .ref oo), (4, .int (nI i))]) (kk : ∀ (ws : va_W) (H : Heap) (locs : List Loc) (ls : Array Slot), INV cy cq a bb oo ws → va_P D vwCl ws H → va_D (fun q : Nat => s.heap.size ≤ q) ws → va_S (fun q : Nat => s.heap.size ≤ q) s.heap H locs → lv_has ls 7 [(0, .ref b), (1, .ref (a 0)), (2, .ref (bb 0)), (3, .ref oo), (4, .int (nI i))] → W p l e room_1 s m args below meth c H locs (cells + 1) (slots + 6) Q (F0 m 1495 ls [])) : W p l e room_1 s m args below meth c H locs cells slots Q (F0 m 768 ls []) := by
  obtain ⟨key, val, ord, tk, cp, efi, ela, eco, ene, ldp, dp, dbl, hlv, spl, mrg, lfi, lla, lco, lne, lev, ptr, llo, lhi, lsp, dep, E, L9, sto, vas, dpt, ext, lin, mov, thr, ov, rfl, hCR, hMR, hMC⟩ := hI
  obtain ⟨hx, hb, hml, hown, hrt, hlk, hT⟩ := id C
  have hK1 : va_K D vwCl (tq_ty cy) s := hK.sub [0] rfl
  have hA : ∀ q : Nat, s.heap.size ≤ q → (fun q : Nat => s.heap.size ≤ q) q := fun _ h => h
  have hbA : ¬ (fun q : Nat => s.heap.size ≤ q) b := Nat.not_le.mpr hbl
  obtain ⟨p1, hp1⟩ : ∃ z, z = xs (nI (i + 1)).toNatClampNeg := ⟨_, rfl⟩
  obtain ⟨p2, hp2⟩ : ∃ z, z = xs (nI (i + 2)).toNatClampNeg := ⟨_, rfl⟩
  refine lv_aload_n hx hb dL_law_768 rfl (lv_at hl 1 rfl) ?_
  refine lv_aload_n hx hb dL_law_769 rfl (lv_at hl 0 rfl) ?_
  refine lv_iload hx hb dL_law_770 (lv_at hl 4 rfl) ?_
  refine lv_iconst (v := nI 1) hx hb dL_law_772 (by decide) ?_
  refine tq_iadd C dL_law_773 ?_
  refine va_sld hx hb hX hbl hbA hS (vp_inN (by omega) hL) dL_law_774 ?_
  rw [← hp1]
  refine lv_aload_n hx hb dL_law_775 rfl (lv_at hl 0 rfl) ?_
  refine lv_iload hx hb dL_law_776 (lv_at hl 4 rfl) ?_
  refine lv_iconst (v := nI 2) hx hb dL_law_778 (by decide) ?_
  refine tq_iadd C dL_law_779 ?_
  refine va_sld hx hb hX hbl hbA hS (vp_inN (by omega) hL) dL_law_780 ?_
  rw [← hp2]
  refine lv_aload_n hx hb dL_law_781 rfl (lv_at hl 3 rfl) ?_
  refine tq_callI (W3 := fun u => (wZ cy a key val ord tk cp efi ela eco ene ldp dp dbl hlv spl mrg lfi lla lco lne lev ptr llo lhi lsp bb sto vas tk cp llo lhi dpt dp ext dbl hlv spl mrg lin lev ptr lsp mov thr cq oo u)) (wr := [18, 19, 20, 21, 22, 23, 24].filterMap (fun i => (wZ cy a key val ord tk cp efi ela eco ene ldp dp dbl hlv spl mrg lfi lla lco lne lev ptr llo lhi lsp bb sto vas tk cp llo lhi dpt dp ext dbl hlv spl mrg lin lev ptr lsp mov thr cq oo ov)[i]?)) (vx_runSW C.fix (As := [.ref (a 0), .int p1, .int p2, .ref oo]) (rest := []) (c_L_keyAt l hl9 D cy cq a key val ord tk cp efi ela eco ene ldp dp dbl hlv spl mrg lfi lla lco lne lev ptr llo lhi lsp oo ov p1 p2 dep E L9 hCR H.size) (tq_cW (n := 4) C ml_L_129 sm_L_keyAt ini_L cw_L_keyAt ⟨by decide, by decide, by decide +kernel⟩ ⟨Nat.le_of_ble_eq_true rfl, Nat.le_of_ble_eq_true rfl⟩) ⟨tq_Pl.blind, tq_preL C hN hK hP hD hS hA hE [0, 1, 2, 3, 4, 5, 6, 7, 8, 9, 10, 11, 12, 13, 14, 15, 16, 17, 25] (by decide) rfl⟩ rfl rfl hl.1 rfl (lv_room (Nat.le_of_ble_eq_true rfl)) dL_law_782 ⟨hcells, hslots⟩) hP hD hS hA [0, 1, 2, 3, 4, 5, 6, 7, 8, 9, 10, 11, 12, 13, 14, 15, 16, 17, 25] [18, 19, 20, 21, 22, 23, 24] [7, 8, 9, 10, 11, 12, 13, 14, 15, 16, 17, 18, 19, 20, 21, 22, 23, 24, 0, 1, 2, 3, 4, 5, 6, 25] rfl rfl (by decide) (by decide) (by decide) (fun _ => rfl) (fun k u H locs hw hP hD hS => ?_)
  have hP : va_P D vwCl (wZ cy a key val ord tk cp efi ela eco ene ldp dp dbl hlv spl mrg lfi lla lco lne lev ptr llo lhi lsp bb sto vas tk cp llo lhi dpt dp ext dbl hlv spl mrg lin lev ptr lsp mov thr cq oo u) H := hP
  have hD : va_D (fun q : Nat => s.heap.size ≤ q) (wZ cy a key val ord tk cp efi ela eco ene ldp dp dbl hlv spl mrg lfi lla lco lne lev ptr llo lhi lsp bb sto vas tk cp llo lhi dpt dp ext dbl hlv spl mrg lin lev ptr lsp mov thr cq oo u) := hD
  refine lv_istore (lv' := [(5, .int k), (0, .ref b), (1, .ref (a 0)), (2, .ref (bb 0)), (3, .ref oo), (4, .int (nI i))]) hx hb dL_law_785 hl (by decide) rfl (fun ls hl => ?_)
  refine lv_aload_n hx hb dL_law_787 rfl (lv_at hl 3 rfl) ?_
  refine lv_aload_n hx hb dL_law_788 rfl (lv_at hl 1 rfl) ?_
  refine lv_iload hx hb dL_law_789 (lv_at hl 5 rfl) ?_
  refine lv_iconst (v := nI 1) hx hb dL_law_791 (by decide) ?_
  refine tq_iadd C dL_law_792 ?_
  refine va_sld hx hb hX hbl hbA hS (vp_inN (by omega) hL) dL_law_793 ?_
  rw [← hp1]
  refine lv_aload_n hx hb dL_law_794 rfl (lv_at hl 1 rfl) ?_
  refine lv_iload hx hb dL_law_795 (lv_at hl 5 rfl) ?_
  refine lv_iconst (v := nI 2) hx hb dL_law_797 (by decide) ?_
  refine tq_iadd C dL_law_798 ?_
  refine va_sld hx hb hX hbl hbA hS (vp_inN (by omega) hL) dL_law_799 ?_
  rw [← hp2]
  refine tq_callI (W3 := fun v => (wZ cy a key val ord tk cp efi ela eco ene ldp dp dbl hlv spl mrg lfi lla lco lne lev ptr llo lhi lsp bb sto vas tk cp llo lhi dpt dp ext dbl hlv spl mrg lin lev ptr lsp mov v cq oo u)) (wr := [0, 1, 2, 3, 4, 5, 6, 7, 8, 9, 10, 11, 12, 13, 14, 15, 16, 17, 25].filterMap (fun i => (wZ cy a key val ord tk cp efi ela eco ene ldp dp dbl hlv spl mrg lfi lla lco lne lev ptr llo lhi lsp bb sto vas tk cp llo lhi dpt dp ext dbl hlv spl mrg lin lev ptr lsp mov thr cq oo u)[i]?)) (va_runV C.fix (As := [.int p1, .int p2]) (rest := []) (c_X5_keyAt l D cy bb sto vas tk cp llo lhi dpt dp ext dbl hlv spl mrg lin lev ptr lsp mov thr p1 p2 (stl key val ord tk) dep E L9 hMR hMC H.size) (tq_cV (n := 2) C ml_L_131 im_X5_keyAt se_X5_keyAt ini_X5 cd_X5_keyAt ⟨by decide, by decide, by decide +kernel⟩ ⟨Nat.le_of_ble_eq_true rfl, Nat.le_of_ble_eq_true rfl⟩) ⟨tq_Pc.blind, va_recv hK hP (ci := 5) (q0 := 18) rfl rfl, tq_preC C hK1 (hP.sub [18, 19, 20, 21, 22, 23, 24] rfl) (hD.sub [18, 19, 20, 21, 22, 23, 24] (by decide) rfl)⟩ rfl rfl hl.1 rfl (lv_room (Nat.le_of_ble_eq_true rfl)) dL_law_800 ⟨hcells, hslots⟩) hP hD hS hA [18, 19, 20, 21, 22, 23, 24] [0, 1, 2, 3, 4, 5, 6, 7, 8, 9, 10, 11, 12, 13, 14, 15, 16, 17, 25] [0, 1, 2, 3, 4, 5, 6, 7, 8, 9, 10, 11, 12, 13, 14, 15, 16, 17, 19, 20, 21, 22, 23, 24, 25, 18] rfl rfl (by decide) (by decide) (by decide) (fun _ => rfl) (fun r2 v H locs hm hP hD hS => ?_)
  have hP : va_P D vwCl (wZ cy a key val ord tk cp efi ela eco ene ldp dp dbl hlv spl mrg lfi lla lco lne lev ptr llo lhi lsp bb sto vas tk cp llo lhi dpt dp ext dbl hlv spl mrg lin lev ptr lsp mov v cq oo u) H := hP
  have hD : va_D (fun q : Nat => s.heap.size ≤ q) (wZ cy a key val ord tk cp efi ela eco ene ldp dp dbl hlv spl mrg lfi lla lco lne lev ptr llo lhi lsp bb sto vas tk cp llo lhi dpt dp ext dbl hlv spl mrg lin lev ptr lsp mov v cq oo u) := hD
  refine lv_istore (lv' := [(6, .int r2), (5, .int k), (0, .ref b), (1, .ref (a 0)), (2, .ref (bb 0)), (3, .ref oo), (4, .int (nI i))]) hx hb dL_law_803 hl (by decide) rfl (fun ls hl => ?_)
  refine lv_aload_n hx hb dL_law_805 rfl (lv_at hl 4 rfl) ?_
  have hq : nI v = k ∧ (k = nI 0 → u 0 = r2.toInt64) := meet_read (X := "java/lang/IndexOutOfBoundsException") (by decide) hw hm meet_ex2 (ex_uniq (by have := hMC.1.1; have := p8 this; omega) (fun _ _ => at_uniq (by unfold clB; exact Nat.le_trans (List.length_filter_le _ _) (by rw [← hMR.2.1]; have := hMR.2.2.2.1; omega))))
  have hq2 : INV cy cq a bb oo (wZ cy a key val ord tk cp efi ela eco ene ldp dp dbl hlv spl mrg lfi lla lco lne lev ptr llo lhi lsp bb sto vas tk cp llo lhi dpt dp ext dbl hlv spl mrg lin lev ptr lsp mov v cq oo u) := ⟨key, val, ord, tk, cp, efi, ela, eco, ene, ldp, dp, dbl, hlv, spl, mrg, lfi, lla, lco, lne, lev, ptr, llo, lhi, lsp, dep, E, L9, sto, vas, dpt, ext, lin, mov, v, u, rfl, hCR, hMR, hMC⟩
  refine tq_callF (va_runV C.fix (As := []) (rest := []) (c_X5_thrown l D cy bb sto vas tk cp llo lhi dpt dp ext dbl hlv spl mrg lin lev ptr lsp mov v  ) (tq_cV (n := 0) C ml_L_84 im_X5_thrown se_X5_thrown ini_X5 cd_X5_thrown ⟨by decide, by decide, by decide +kernel⟩ ⟨Nat.le_of_ble_eq_true rfl, Nat.le_of_ble_eq_true rfl⟩) ⟨tq_Pf.blind, va_recv hK hP (ci := 5) (q0 := 18) rfl rfl, tq_preF C hK1 (hP.sub [18, 19, 20, 21, 22, 23, 24] rfl)⟩ rfl rfl hl.1 rfl (lv_room (Nat.le_of_ble_eq_true rfl)) dL_law_806 ⟨hcells, hslots⟩) (fun r9 hr9 => ?_)
  obtain rfl := hr9
  refine lv_iload hx hb dL_law_809 (lv_at hl 1 rfl) ?_
  refine lv_icmp_eq (tgt := 816) hx hb dL_law_811 (by decide) (fun _ => ?_) (fun h9 => absurd hq.1 h9)
  refine lv_iload hx hb dL_law_816 (lv_at hl 1 rfl) ?_
  refine lv_if_ne (tgt := 833) hx hb dL_law_818 (by decide) (fun _ => ?_) (fun h9 => ?_)
  · refine lv_goto (tgt := 1495) hx hb dL_law_833 (by decide) ?_
    exact kk _ _ _ _ hq2 hP hD hS (lv_sub hl [2, 3, 4, 5, 6] rfl)
  · have h8 : k = nI 0 := by first | exact h9 | exact Classical.not_not.mp h9
    refine lv_aload_n hx hb dL_law_821 rfl (lv_at hl 5 rfl) ?_
    refine lv_iconst (v := nI 0) hx hb dL_law_822 (by decide) ?_
    refine va_lald hx hb hK hP 25 1 rfl rfl tq_in0 dL_law_823 ?_
    rw [show u (nI 0).toNatClampNeg = r2.toInt64 from hq.2 h8]
    refine lv_iload hx hb dL_law_824 (lv_at hl 0 rfl) ?_
    refine lv_i2l (v := r2.toInt64) hx hb dL_law_826 rfl ?_
    refine lv_lcmp0 hx hb dL_law_827 ?_
    refine lv_if_eq (tgt := 833) hx hb dL_law_828 (by decide) (fun _ => ?_) (fun h7 => absurd rfl h7)
    refine lv_goto (tgt := 1495) hx hb dL_law_833 (by decide) ?_
    exact kk _ _ _ _ hq2 hP hD hS (lv_sub hl [2, 3, 4, 5, 6] rfl)
set_option maxHeartbeats 4000000 in
set_option maxRecDepth 100000 in
theorem law_slotOf {p : Program} {l : Launch} (hl9 : l.stackTraces = false) {e : Env} {s : State} {m : MethodId} {below : List Frame} {meth : Method} {c : Code} {D : va_G} {cy cq : ClassId} {b N9 i : Nat} {xs : Nat → Int32} {args : Array Value} {Q : State → Prop} {cells slots : Nat} {a bb : Nat → Nat} {oo : Nat} {ws : va_W} {H : Heap} {locs : List Loc} {ls : Array Slot} (C : tq_C p s m meth c "TwinHashTablesLaw" cL_law 7 (some .boolean)) (hN : va_Nc tqISE tqIAE s) (hK : va_K D vwCl (tq_ty2 cy cq) s) (hE : tq_E (fun q : Nat => s.heap.size ≤ q) s s.heap) (hX : va_X b N9 xs s s.heap) (hbl : b < s.heap.size) (hL : N9 ≤ 1536) (hi : i + 2 < N9) (hcells : cells + 1 ≤ 1053) (hslots : slots + 6 ≤ 11515) (hI : INV cy cq a bb oo ws) (hP : va_P D vwCl ws H) (hD : va_D (fun q : Nat => s.heap.size ≤ q) ws) (hS : va_S (fun q : Nat => s.heap.size ≤ q) s.heap H locs) (hl : lv_has ls 7 [(0, .ref b), (1, .ref (a 0)), (2, .ref (bb 0)), (3, .ref oo), (4, .int (nI i))]) (kk : ∀ (ws : va_W) (H : Heap) (locs : List Loc) (ls : Array Slot), INV cy cq a bb oo ws → va_P D vwCl ws H → va_D (fun q : Nat => s.heap.size ≤ q) ws → va_S (fun q : Nat => s.heap.size ≤ q) s.heap H locs → lv_has ls 7 [(0, .ref b), (1, .ref (a 0)), (2, .ref (bb 0)), (3, .ref oo), (4, .int (nI i))] → W p l e room_1 s m args below meth c H locs (cells + 1) (slots + 6) Q (F0 m 1495 ls [])) : W p l e room_1 s m args below meth c H locs cells slots Q (F0 m 836 ls []) := by
  obtain ⟨key, val, ord, tk, cp, efi, ela, eco, ene, ldp, dp, dbl, hlv, spl, mrg, lfi, lla, lco, lne, lev, ptr, llo, lhi, lsp, dep, E, L9, sto, vas, dpt, ext, lin, mov, thr, ov, rfl, hCR, hMR, hMC⟩ := hI
  obtain ⟨hx, hb, hml, hown, hrt, hlk, hT⟩ := id C
  have hK1 : va_K D vwCl (tq_ty cy) s := hK.sub [0] rfl
  have hA : ∀ q : Nat, s.heap.size ≤ q → (fun q : Nat => s.heap.size ≤ q) q := fun _ h => h
  have hbA : ¬ (fun q : Nat => s.heap.size ≤ q) b := Nat.not_le.mpr hbl
  obtain ⟨p1, hp1⟩ : ∃ z, z = xs (nI (i + 1)).toNatClampNeg := ⟨_, rfl⟩
  refine lv_aload_n hx hb dL_law_836 rfl (lv_at hl 1 rfl) ?_
  refine lv_aload_n hx hb dL_law_837 rfl (lv_at hl 0 rfl) ?_
  refine lv_iload hx hb dL_law_838 (lv_at hl 4 rfl) ?_
  refine lv_iconst (v := nI 1) hx hb dL_law_840 (by decide) ?_
  refine tq_iadd C dL_law_841 ?_
  refine va_sld hx hb hX hbl hbA hS (vp_inN (by omega) hL) dL_law_842 ?_
  rw [← hp1]
  refine lv_aload_n hx hb dL_law_843 rfl (lv_at hl 3 rfl) ?_
  refine tq_callI (W3 := fun u => (wZ cy a key val ord tk cp efi ela eco ene ldp dp dbl hlv spl mrg lfi lla lco lne lev ptr llo lhi lsp bb sto vas tk cp llo lhi dpt dp ext dbl hlv spl mrg lin lev ptr lsp mov thr cq oo u)) (wr := [18, 19, 20, 21, 22, 23, 24].filterMap (fun i => (wZ cy a key val ord tk cp efi ela eco ene ldp dp dbl hlv spl mrg lfi lla lco lne lev ptr llo lhi lsp bb sto vas tk cp llo lhi dpt dp ext dbl hlv spl mrg lin lev ptr lsp mov thr cq oo ov)[i]?)) (vx_runSW C.fix (As := [.ref (a 0), .int p1, .ref oo]) (rest := []) (c_L_slotOf l hl9 D cy cq a key val ord tk cp efi ela eco ene ldp dp dbl hlv spl mrg lfi lla lco lne lev ptr llo lhi lsp oo ov p1 dep E L9 hCR H.size) (tq_cW (n := 3) C ml_L_132 sm_L_slotOf ini_L cw_L_slotOf ⟨by decide, by decide, by decide +kernel⟩ ⟨Nat.le_of_ble_eq_true rfl, Nat.le_of_ble_eq_true rfl⟩) ⟨tq_Pl.blind, tq_preL C hN hK hP hD hS hA hE [0, 1, 2, 3, 4, 5, 6, 7, 8, 9, 10, 11, 12, 13, 14, 15, 16, 17, 25] (by decide) rfl⟩ rfl rfl hl.1 rfl (lv_room (Nat.le_of_ble_eq_true rfl)) dL_law_844 ⟨hcells, hslots⟩) hP hD hS hA [0, 1, 2, 3, 4, 5, 6, 7, 8, 9, 10, 11, 12, 13, 14, 15, 16, 17, 25] [18, 19, 20, 21, 22, 23, 24] [7, 8, 9, 10, 11, 12, 13, 14, 15, 16, 17, 18, 19, 20, 21, 22, 23, 24, 0, 1, 2, 3, 4, 5, 6, 25] rfl rfl (by decide) (by decide) (by decide) (fun _ => rfl) (fun k u H locs hw hP hD hS => ?_)
  have hP : va_P D vwCl (wZ cy a key val ord tk cp efi ela eco ene ldp dp dbl hlv spl mrg lfi lla lco lne lev ptr llo lhi lsp bb sto vas tk cp llo lhi dpt dp ext dbl hlv spl mrg lin lev ptr lsp mov thr cq oo u) H := hP
  have hD : va_D (fun q : Nat => s.heap.size ≤ q) (wZ cy a key val ord tk cp efi ela eco ene ldp dp dbl hlv spl mrg lfi lla lco lne lev ptr llo lhi lsp bb sto vas tk cp llo lhi dpt dp ext dbl hlv spl mrg lin lev ptr lsp mov thr cq oo u) := hD
  refine lv_istore (lv' := [(5, .int k), (0, .ref b), (1, .ref (a 0)), (2, .ref (bb 0)), (3, .ref oo), (4, .int (nI i))]) hx hb dL_law_847 hl (by decide) rfl (fun ls hl => ?_)
  refine lv_aload_n hx hb dL_law_849 rfl (lv_at hl 3 rfl) ?_
  refine lv_aload_n hx hb dL_law_850 rfl (lv_at hl 1 rfl) ?_
  refine lv_iload hx hb dL_law_851 (lv_at hl 5 rfl) ?_
  refine lv_iconst (v := nI 1) hx hb dL_law_853 (by decide) ?_
  refine tq_iadd C dL_law_854 ?_
  refine va_sld hx hb hX hbl hbA hS (vp_inN (by omega) hL) dL_law_855 ?_
  rw [← hp1]
  refine tq_callI (W3 := fun v => (wZ cy a key val ord tk cp efi ela eco ene ldp dp dbl hlv spl mrg lfi lla lco lne lev ptr llo lhi lsp bb sto vas tk cp llo lhi dpt dp ext dbl hlv spl mrg lin lev ptr lsp mov v cq oo u)) (wr := [0, 1, 2, 3, 4, 5, 6, 7, 8, 9, 10, 11, 12, 13, 14, 15, 16, 17, 25].filterMap (fun i => (wZ cy a key val ord tk cp efi ela eco ene ldp dp dbl hlv spl mrg lfi lla lco lne lev ptr llo lhi lsp bb sto vas tk cp llo lhi dpt dp ext dbl hlv spl mrg lin lev ptr lsp mov thr cq oo u)[i]?)) (va_runV C.fix (As := [.int p1]) (rest := []) (c_X5_slotOf l D cy bb sto vas tk cp llo lhi dpt dp ext dbl hlv spl mrg lin lev ptr lsp mov thr p1 (stl key val ord tk) dep E L9 hMR hMC H.size) (tq_cV (n := 1) C ml_L_134 im_X5_slotOf se_X5_slotOf ini_X5 cd_X5_slotOf ⟨by decide, by decide, by decide +kernel⟩ ⟨Nat.le_of_ble_eq_true rfl, Nat.le_of_ble_eq_true rfl⟩) ⟨tq_Pc.blind, va_recv hK hP (ci := 5) (q0 := 18) rfl rfl, tq_preC C hK1 (hP.sub [18, 19, 20, 21, 22, 23, 24] rfl) (hD.sub [18, 19, 20, 21, 22, 23, 24] (by decide) rfl)⟩ rfl rfl hl.1 rfl (lv_room (Nat.le_of_ble_eq_true rfl)) dL_law_856 ⟨hcells, hslots⟩) hP hD hS hA [18, 19, 20, 21, 22, 23, 24] [0, 1, 2, 3, 4, 5, 6, 7, 8, 9, 10, 11, 12, 13, 14, 15, 16, 17, 25] [0, 1, 2, 3, 4, 5, 6, 7, 8, 9, 10, 11, 12, 13, 14, 15, 16, 17, 19, 20, 21, 22, 23, 24, 25, 18] rfl rfl (by decide) (by decide) (by decide) (fun _ => rfl) (fun r2 v H locs hm hP hD hS => ?_)
  have hP : va_P D vwCl (wZ cy a key val ord tk cp efi ela eco ene ldp dp dbl hlv spl mrg lfi lla lco lne lev ptr llo lhi lsp bb sto vas tk cp llo lhi dpt dp ext dbl hlv spl mrg lin lev ptr lsp mov v cq oo u) H := hP
  have hD : va_D (fun q : Nat => s.heap.size ≤ q) (wZ cy a key val ord tk cp efi ela eco ene ldp dp dbl hlv spl mrg lfi lla lco lne lev ptr llo lhi lsp bb sto vas tk cp llo lhi dpt dp ext dbl hlv spl mrg lin lev ptr lsp mov v cq oo u) := hD
  refine lv_istore (lv' := [(6, .int r2), (5, .int k), (0, .ref b), (1, .ref (a 0)), (2, .ref (bb 0)), (3, .ref oo), (4, .int (nI i))]) hx hb dL_law_859 hl (by decide) rfl (fun ls hl => ?_)
  refine lv_aload_n hx hb dL_law_861 rfl (lv_at hl 4 rfl) ?_
  have hq : nI v = k ∧ (k = nI 0 → u 0 = r2.toInt64) := meet_read (X := tqIAE) (by decide) hw hm meet_key (ex_fun (by decide))
  have hq2 : INV cy cq a bb oo (wZ cy a key val ord tk cp efi ela eco ene ldp dp dbl hlv spl mrg lfi lla lco lne lev ptr llo lhi lsp bb sto vas tk cp llo lhi dpt dp ext dbl hlv spl mrg lin lev ptr lsp mov v cq oo u) := ⟨key, val, ord, tk, cp, efi, ela, eco, ene, ldp, dp, dbl, hlv, spl, mrg, lfi, lla, lco, lne, lev, ptr, llo, lhi, lsp, dep, E, L9, sto, vas, dpt, ext, lin, mov, v, u, rfl, hCR, hMR, hMC⟩
  refine tq_callF (va_runV C.fix (As := []) (rest := []) (c_X5_thrown l D cy bb sto vas tk cp llo lhi dpt dp ext dbl hlv spl mrg lin lev ptr lsp mov v  ) (tq_cV (n := 0) C ml_L_84 im_X5_thrown se_X5_thrown ini_X5 cd_X5_thrown ⟨by decide, by decide, by decide +kernel⟩ ⟨Nat.le_of_ble_eq_true rfl, Nat.le_of_ble_eq_true rfl⟩) ⟨tq_Pf.blind, va_recv hK hP (ci := 5) (q0 := 18) rfl rfl, tq_preF C hK1 (hP.sub [18, 19, 20, 21, 22, 23, 24] rfl)⟩ rfl rfl hl.1 rfl (lv_room (Nat.le_of_ble_eq_true rfl)) dL_law_862 ⟨hcells, hslots⟩) (fun r9 hr9 => ?_)
  obtain rfl := hr9
  refine lv_iload hx hb dL_law_865 (lv_at hl 1 rfl) ?_
  refine lv_icmp_eq (tgt := 872) hx hb dL_law_867 (by decide) (fun _ => ?_) (fun h9 => absurd hq.1 h9)
  refine lv_iload hx hb dL_law_872 (lv_at hl 1 rfl) ?_
  refine lv_if_ne (tgt := 889) hx hb dL_law_874 (by decide) (fun _ => ?_) (fun h9 => ?_)
  · refine lv_goto (tgt := 1495) hx hb dL_law_889 (by decide) ?_
    exact kk _ _ _ _ hq2 hP hD hS (lv_sub hl [2, 3, 4, 5, 6] rfl)
  · have h8 : k = nI 0 := by first | exact h9 | exact Classical.not_not.mp h9
    refine lv_aload_n hx hb dL_law_877 rfl (lv_at hl 5 rfl) ?_
    refine lv_iconst (v := nI 0) hx hb dL_law_878 (by decide) ?_
    refine va_lald hx hb hK hP 25 1 rfl rfl tq_in0 dL_law_879 ?_
    rw [show u (nI 0).toNatClampNeg = r2.toInt64 from hq.2 h8]
    refine lv_iload hx hb dL_law_880 (lv_at hl 0 rfl) ?_
    refine lv_i2l (v := r2.toInt64) hx hb dL_law_882 rfl ?_
    refine lv_lcmp0 hx hb dL_law_883 ?_
    refine lv_if_eq (tgt := 889) hx hb dL_law_884 (by decide) (fun _ => ?_) (fun h7 => absurd rfl h7)
    refine lv_goto (tgt := 1495) hx hb dL_law_889 (by decide) ?_
    exact kk _ _ _ _ hq2 hP hD hS (lv_sub hl [2, 3, 4, 5, 6] rfl)
