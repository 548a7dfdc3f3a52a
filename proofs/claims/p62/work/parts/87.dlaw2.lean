theorem dL_believes_201 : decode cL_believes 201 = .ok (.goto 4, 3) := by decide +kernel
theorem dL_believes_204 : decode cL_believes 204 = .ok (.iconst (-1), 1) := by decide +kernel
theorem dL_believes_205 : decode cL_believes 205 = .ok (.istore 13, 2) := by decide +kernel
theorem dL_believes_207 : decode cL_believes 207 = .ok (.aload_n 0, 1) := by decide +kernel
theorem dL_believes_208 : decode cL_believes 208 = .ok (.iload_n 1, 1) := by decide +kernel
theorem dL_believes_209 : decode cL_believes 209 = .ok (.iload 10, 2) := by decide +kernel
theorem dL_believes_211 : decode cL_believes 211 = .ok (.iconst 0, 1) := by decide +kernel
theorem dL_believes_212 : decode cL_believes 212 = .ok (.invokevirtual 185, 3) := by decide +kernel
theorem dL_believes_215 : decode cL_believes 215 = .ok (.iload 12, 2) := by decide +kernel
theorem dL_believes_217 : decode cL_believes 217 = .ok (.if_icmp .ne 16, 3) := by decide +kernel
theorem dL_believes_220 : decode cL_believes 220 = .ok (.aload_n 0, 1) := by decide +kernel
theorem dL_believes_221 : decode cL_believes 221 = .ok (.iload_n 1, 1) := by decide +kernel
theorem dL_believes_222 : decode cL_believes 222 = .ok (.iload 10, 2) := by decide +kernel
theorem dL_believes_224 : decode cL_believes 224 = .ok (.iconst 1, 1) := by decide +kernel
theorem dL_believes_225 : decode cL_believes 225 = .ok (.invokevirtual 185, 3) := by decide +kernel
theorem dL_believes_228 : decode cL_believes 228 = .ok (.iload 13, 2) := by decide +kernel
theorem dL_believes_230 : decode cL_believes 230 = .ok (.if_icmp .eq 5, 3) := by decide +kernel
theorem dL_believes_233 : decode cL_believes 233 = .ok (.iconst 0, 1) := by decide +kernel
theorem dL_believes_234 : decode cL_believes 234 = .ok (.ireturn, 1) := by decide +kernel
theorem dL_believes_235 : decode cL_believes 235 = .ok (.aload_n 0, 1) := by decide +kernel
theorem dL_believes_236 : decode cL_believes 236 = .ok (.iload_n 1, 1) := by decide +kernel
theorem dL_believes_237 : decode cL_believes 237 = .ok (.iload 10, 2) := by decide +kernel
theorem dL_believes_239 : decode cL_believes 239 = .ok (.invokestatic 188, 3) := by decide +kernel
theorem dL_believes_242 : decode cL_believes 242 = .ok (.istore 14, 2) := by decide +kernel
theorem dL_believes_244 : decode cL_believes 244 = .ok (.iload 14, 2) := by decide +kernel
theorem dL_believes_246 : decode cL_believes 246 = .ok (.ifCond .ne 24, 3) := by decide +kernel
theorem dL_believes_249 : decode cL_believes 249 = .ok (.iload 5, 2) := by decide +kernel
theorem dL_believes_251 : decode cL_believes 251 = .ok (.iload 12, 2) := by decide +kernel
theorem dL_believes_253 : decode cL_believes 253 = .ok (.invokestatic 144, 3) := by decide +kernel
theorem dL_believes_256 : decode cL_believes 256 = .ok (.iload 6, 2) := by decide +kernel
theorem dL_believes_258 : decode cL_believes 258 = .ok (.iload 13, 2) := by decide +kernel
theorem dL_believes_260 : decode cL_believes 260 = .ok (.invokestatic 30, 3) := by decide +kernel
theorem dL_believes_263 : decode cL_believes 263 = .ok (.if_icmp .gt 7, 3) := by decide +kernel
theorem dL_believes_266 : decode cL_believes 266 = .ok (.iconst 1, 1) := by decide +kernel
theorem dL_believes_267 : decode cL_believes 267 = .ok (.goto 4, 3) := by decide +kernel
theorem dL_believes_270 : decode cL_believes 270 = .ok (.iconst 0, 1) := by decide +kernel
theorem dL_believes_271 : decode cL_believes 271 = .ok (.istore 15, 2) := by decide +kernel
theorem dL_believes_273 : decode cL_believes 273 = .ok (.aload_n 0, 1) := by decide +kernel
theorem dL_believes_274 : decode cL_believes 274 = .ok (.iload_n 1, 1) := by decide +kernel
theorem dL_believes_275 : decode cL_believes 275 = .ok (.iload 10, 2) := by decide +kernel
theorem dL_believes_277 : decode cL_believes 277 = .ok (.invokevirtual 192, 3) := by decide +kernel
theorem dL_believes_280 : decode cL_believes 280 = .ok (.iload 14, 2) := by decide +kernel
theorem dL_believes_282 : decode cL_believes 282 = .ok (.ifCond .eq 7, 3) := by decide +kernel
theorem dL_believes_285 : decode cL_believes 285 = .ok (.iconst 2, 1) := by decide +kernel
theorem dL_believes_286 : decode cL_believes 286 = .ok (.goto 13, 3) := by decide +kernel
theorem dL_believes_289 : decode cL_believes 289 = .ok (.iload 15, 2) := by decide +kernel
theorem dL_believes_291 : decode cL_believes 291 = .ok (.ifCond .eq 7, 3) := by decide +kernel
theorem dL_believes_294 : decode cL_believes 294 = .ok (.iconst 0, 1) := by decide +kernel
theorem dL_believes_295 : decode cL_believes 295 = .ok (.goto 4, 3) := by decide +kernel
theorem dL_believes_298 : decode cL_believes 298 = .ok (.iconst 1, 1) := by decide +kernel
theorem dL_believes_299 : decode cL_believes 299 = .ok (.if_icmp .eq 5, 3) := by decide +kernel
theorem dL_believes_302 : decode cL_believes 302 = .ok (.iconst 0, 1) := by decide +kernel
theorem dL_believes_303 : decode cL_believes 303 = .ok (.ireturn, 1) := by decide +kernel
theorem dL_believes_304 : decode cL_believes 304 = .ok (.iload 14, 2) := by decide +kernel
theorem dL_believes_306 : decode cL_believes 306 = .ok (.ifCond .eq 6, 3) := by decide +kernel
theorem dL_believes_309 : decode cL_believes 309 = .ok (.goto 89, 3) := by decide +kernel
theorem dL_believes_312 : decode cL_believes 312 = .ok (.iload 7, 2) := by decide +kernel
theorem dL_believes_314 : decode cL_believes 314 = .ok (.iload 15, 2) := by decide +kernel
theorem dL_believes_316 : decode cL_believes 316 = .ok (.ifCond .eq 16, 3) := by decide +kernel
theorem dL_believes_319 : decode cL_believes 319 = .ok (.iconst 1, 1) := by decide +kernel
theorem dL_believes_320 : decode cL_believes 320 = .ok (.aload_n 0, 1) := by decide +kernel
theorem dL_believes_321 : decode cL_believes 321 = .ok (.iload_n 1, 1) := by decide +kernel
theorem dL_believes_322 : decode cL_believes 322 = .ok (.iload 10, 2) := by decide +kernel
theorem dL_believes_324 : decode cL_believes 324 = .ok (.iconst 0, 1) := by decide +kernel
theorem dL_believes_325 : decode cL_believes 325 = .ok (.invokevirtual 140, 3) := by decide +kernel
theorem dL_believes_328 : decode cL_believes 328 = .ok (.ishl, 1) := by decide +kernel
theorem dL_believes_329 : decode cL_believes 329 = .ok (.goto 4, 3) := by decide +kernel
theorem dL_believes_332 : decode cL_believes 332 = .ok (.iconst 0, 1) := by decide +kernel
theorem dL_believes_333 : decode cL_believes 333 = .ok (.ior, 1) := by decide +kernel
theorem dL_believes_334 : decode cL_believes 334 = .ok (.istore 7, 2) := by decide +kernel
theorem dL_believes_336 : decode cL_believes 336 = .ok (.iload 8, 2) := by decide +kernel
theorem dL_believes_338 : decode cL_believes 338 = .ok (.iload 15, 2) := by decide +kernel
theorem dL_believes_340 : decode cL_believes 340 = .ok (.ifCond .eq 7, 3) := by decide +kernel
theorem dL_believes_343 : decode cL_believes 343 = .ok (.iconst 0, 1) := by decide +kernel
theorem dL_believes_344 : decode cL_believes 344 = .ok (.goto 13, 3) := by decide +kernel
theorem dL_believes_347 : decode cL_believes 347 = .ok (.iconst 1, 1) := by decide +kernel
theorem dL_believes_348 : decode cL_believes 348 = .ok (.aload_n 0, 1) := by decide +kernel
theorem dL_believes_349 : decode cL_believes 349 = .ok (.iload_n 1, 1) := by decide +kernel
theorem dL_believes_350 : decode cL_believes 350 = .ok (.iload 10, 2) := by decide +kernel
theorem dL_believes_352 : decode cL_believes 352 = .ok (.iconst 0, 1) := by decide +kernel
theorem dL_believes_353 : decode cL_believes 353 = .ok (.invokevirtual 140, 3) := by decide +kernel
theorem dL_believes_356 : decode cL_believes 356 = .ok (.ishl, 1) := by decide +kernel
theorem dL_believes_357 : decode cL_believes 357 = .ok (.ior, 1) := by decide +kernel
theorem dL_believes_358 : decode cL_believes 358 = .ok (.istore 8, 2) := by decide +kernel
theorem dL_believes_360 : decode cL_believes 360 = .ok (.iload 15, 2) := by decide +kernel
theorem dL_believes_362 : decode cL_believes 362 = .ok (.ifCond .eq 13, 3) := by decide +kernel
theorem dL_believes_365 : decode cL_believes 365 = .ok (.iload 5, 2) := by decide +kernel
theorem dL_believes_367 : decode cL_believes 367 = .ok (.iload 12, 2) := by decide +kernel
theorem dL_believes_369 : decode cL_believes 369 = .ok (.invokestatic 144, 3) := by decide +kernel
theorem dL_believes_372 : decode cL_believes 372 = .ok (.goto 5, 3) := by decide +kernel
theorem dL_believes_375 : decode cL_believes 375 = .ok (.iload 5, 2) := by decide +kernel
theorem dL_believes_377 : decode cL_believes 377 = .ok (.istore 5, 2) := by decide +kernel
theorem dL_believes_379 : decode cL_believes 379 = .ok (.iload 15, 2) := by decide +kernel
theorem dL_believes_381 : decode cL_believes 381 = .ok (.ifCond .eq 13, 3) := by decide +kernel
theorem dL_believes_384 : decode cL_believes 384 = .ok (.iload 6, 2) := by decide +kernel
theorem dL_believes_386 : decode cL_believes 386 = .ok (.iload 13, 2) := by decide +kernel
theorem dL_believes_388 : decode cL_believes 388 = .ok (.invokestatic 30, 3) := by decide +kernel
theorem dL_believes_391 : decode cL_believes 391 = .ok (.goto 5, 3) := by decide +kernel
theorem dL_believes_394 : decode cL_believes 394 = .ok (.iload 6, 2) := by decide +kernel
theorem dL_believes_396 : decode cL_believes 396 = .ok (.istore 6, 2) := by decide +kernel
theorem dL_believes_398 : decode cL_believes 398 = .ok (.iinc 9 1, 3) := by decide +kernel
theorem dL_believes_401 : decode cL_believes 401 = .ok (.goto (-292), 3) := by decide +kernel
theorem dL_believes_404 : decode cL_believes 404 = .ok (.aload_n 0, 1) := by decide +kernel
theorem dL_believes_405 : decode cL_believes 405 = .ok (.iload_n 1, 1) := by decide +kernel
theorem dL_believes_406 : decode cL_believes 406 = .ok (.iload_n 2, 1) := by decide +kernel
theorem dL_believes_407 : decode cL_believes 407 = .ok (.iconst 0, 1) := by decide +kernel
theorem dL_believes_408 : decode cL_believes 408 = .ok (.invokevirtual 195, 3) := by decide +kernel
theorem dL_believes_411 : decode cL_believes 411 = .ok (.iload 5, 2) := by decide +kernel
theorem dL_believes_413 : decode cL_believes 413 = .ok (.if_icmp .ne 50, 3) := by decide +kernel
theorem dL_believes_416 : decode cL_believes 416 = .ok (.aload_n 0, 1) := by decide +kernel
theorem dL_believes_417 : decode cL_believes 417 = .ok (.iload_n 1, 1) := by decide +kernel
theorem dL_believes_418 : decode cL_believes 418 = .ok (.iload_n 2, 1) := by decide +kernel
theorem dL_believes_419 : decode cL_believes 419 = .ok (.iconst 1, 1) := by decide +kernel
theorem dL_believes_420 : decode cL_believes 420 = .ok (.invokevirtual 195, 3) := by decide +kernel
theorem dL_believes_423 : decode cL_believes 423 = .ok (.iload 6, 2) := by decide +kernel
theorem dL_believes_425 : decode cL_believes 425 = .ok (.if_icmp .ne 38, 3) := by decide +kernel
theorem dL_believes_428 : decode cL_believes 428 = .ok (.aload_n 0, 1) := by decide +kernel
theorem dL_believes_429 : decode cL_believes 429 = .ok (.iload_n 1, 1) := by decide +kernel
theorem dL_believes_430 : decode cL_believes 430 = .ok (.iload_n 2, 1) := by decide +kernel
theorem dL_believes_431 : decode cL_believes 431 = .ok (.invokevirtual 198, 3) := by decide +kernel
theorem dL_believes_434 : decode cL_believes 434 = .ok (.iload 7, 2) := by decide +kernel
theorem dL_believes_436 : decode cL_believes 436 = .ok (.if_icmp .ne 27, 3) := by decide +kernel
theorem dL_believes_439 : decode cL_believes 439 = .ok (.aload_n 0, 1) := by decide +kernel
theorem dL_believes_440 : decode cL_believes 440 = .ok (.iload_n 1, 1) := by decide +kernel
theorem dL_believes_441 : decode cL_believes 441 = .ok (.iload_n 2, 1) := by decide +kernel
theorem dL_believes_442 : decode cL_believes 442 = .ok (.invokevirtual 201, 3) := by decide +kernel
theorem dL_believes_445 : decode cL_believes 445 = .ok (.iload 8, 2) := by decide +kernel
theorem dL_believes_447 : decode cL_believes 447 = .ok (.if_icmp .ne 16, 3) := by decide +kernel
theorem dL_believes_450 : decode cL_believes 450 = .ok (.aload_n 0, 1) := by decide +kernel
theorem dL_believes_451 : decode cL_believes 451 = .ok (.iload_n 1, 1) := by decide +kernel
theorem dL_believes_452 : decode cL_believes 452 = .ok (.iload_n 2, 1) := by decide +kernel
theorem dL_believes_453 : decode cL_believes 453 = .ok (.invokestatic 204, 3) := by decide +kernel
theorem dL_believes_456 : decode cL_believes 456 = .ok (.ifCond .eq 7, 3) := by decide +kernel
theorem dL_believes_459 : decode cL_believes 459 = .ok (.iconst 1, 1) := by decide +kernel
theorem dL_believes_460 : decode cL_believes 460 = .ok (.goto 4, 3) := by decide +kernel
theorem dL_believes_463 : decode cL_believes 463 = .ok (.iconst 0, 1) := by decide +kernel
theorem dL_believes_464 : decode cL_believes 464 = .ok (.ireturn, 1) := by decide +kernel
theorem dL_agrees_0 : decode cL_agrees 0 = .ok (.bipush 6, 2) := by decide +kernel
theorem dL_agrees_2 : decode cL_agrees 2 = .ok (.newarray .int, 2) := by decide +kernel
theorem dL_agrees_4 : decode cL_agrees 4 = .ok (.astore_n 3, 1) := by decide +kernel
theorem dL_agrees_5 : decode cL_agrees 5 = .ok (.iconst 0, 1) := by decide +kernel
theorem dL_agrees_6 : decode cL_agrees 6 = .ok (.istore 4, 2) := by decide +kernel
theorem dL_agrees_8 : decode cL_agrees 8 = .ok (.iconst 0, 1) := by decide +kernel
theorem dL_agrees_9 : decode cL_agrees 9 = .ok (.istore 5, 2) := by decide +kernel
theorem dL_agrees_11 : decode cL_agrees 11 = .ok (.iload 5, 2) := by decide +kernel
theorem dL_agrees_13 : decode cL_agrees 13 = .ok (.aload_n 0, 1) := by decide +kernel
theorem dL_agrees_14 : decode cL_agrees 14 = .ok (.iload_n 1, 1) := by decide +kernel
theorem dL_agrees_15 : decode cL_agrees 15 = .ok (.invokevirtual 159, 3) := by decide +kernel
theorem dL_agrees_18 : decode cL_agrees 18 = .ok (.if_icmp .ge 43, 3) := by decide +kernel
theorem dL_agrees_21 : decode cL_agrees 21 = .ok (.aload_n 0, 1) := by decide +kernel
theorem dL_agrees_22 : decode cL_agrees 22 = .ok (.iload_n 1, 1) := by decide +kernel
theorem dL_agrees_23 : decode cL_agrees 23 = .ok (.iload 5, 2) := by decide +kernel
theorem dL_agrees_25 : decode cL_agrees 25 = .ok (.iconst 3, 1) := by decide +kernel
theorem dL_agrees_26 : decode cL_agrees 26 = .ok (.invokevirtual 140, 3) := by decide +kernel
theorem dL_agrees_29 : decode cL_agrees 29 = .ok (.iload_n 2, 1) := by decide +kernel
theorem dL_agrees_30 : decode cL_agrees 30 = .ok (.if_icmp .ne 25, 3) := by decide +kernel
theorem dL_agrees_33 : decode cL_agrees 33 = .ok (.aload_n 0, 1) := by decide +kernel
theorem dL_agrees_34 : decode cL_agrees 34 = .ok (.iload_n 1, 1) := by decide +kernel
theorem dL_agrees_35 : decode cL_agrees 35 = .ok (.iload 5, 2) := by decide +kernel
theorem dL_agrees_37 : decode cL_agrees 37 = .ok (.invokestatic 188, 3) := by decide +kernel
theorem dL_agrees_40 : decode cL_agrees 40 = .ok (.ifCond .eq 6, 3) := by decide +kernel
theorem dL_agrees_43 : decode cL_agrees 43 = .ok (.goto 12, 3) := by decide +kernel
theorem dL_agrees_46 : decode cL_agrees 46 = .ok (.aload_n 3, 1) := by decide +kernel
theorem dL_agrees_47 : decode cL_agrees 47 = .ok (.iload 4, 2) := by decide +kernel
theorem dL_agrees_49 : decode cL_agrees 49 = .ok (.iload 5, 2) := by decide +kernel
theorem dL_agrees_51 : decode cL_agrees 51 = .ok (.iastore, 1) := by decide +kernel
theorem dL_agrees_52 : decode cL_agrees 52 = .ok (.iinc 4 1, 3) := by decide +kernel
theorem dL_agrees_55 : decode cL_agrees 55 = .ok (.iinc 5 1, 3) := by decide +kernel
theorem dL_agrees_58 : decode cL_agrees 58 = .ok (.goto (-47), 3) := by decide +kernel
theorem dL_agrees_61 : decode cL_agrees 61 = .ok (.iconst 0, 1) := by decide +kernel
theorem dL_agrees_62 : decode cL_agrees 62 = .ok (.istore 5, 2) := by decide +kernel
theorem dL_agrees_64 : decode cL_agrees 64 = .ok (.iconst (-1), 1) := by decide +kernel
theorem dL_agrees_65 : decode cL_agrees 65 = .ok (.istore 6, 2) := by decide +kernel
theorem dL_agrees_67 : decode cL_agrees 67 = .ok (.iconst (-1), 1) := by decide +kernel
theorem dL_agrees_68 : decode cL_agrees 68 = .ok (.istore 7, 2) := by decide +kernel
theorem dL_agrees_70 : decode cL_agrees 70 = .ok (.iconst 1, 1) := by decide +kernel
theorem dL_agrees_71 : decode cL_agrees 71 = .ok (.istore 8, 2) := by decide +kernel
theorem dL_agrees_73 : decode cL_agrees 73 = .ok (.iload 8, 2) := by decide +kernel
theorem dL_agrees_75 : decode cL_agrees 75 = .ok (.iconst 1, 1) := by decide +kernel
theorem dL_agrees_76 : decode cL_agrees 76 = .ok (.iload 4, 2) := by decide +kernel
theorem dL_agrees_78 : decode cL_agrees 78 = .ok (.ishl, 1) := by decide +kernel
theorem dL_agrees_79 : decode cL_agrees 79 = .ok (.if_icmp .ge 152, 3) := by decide +kernel
theorem dL_agrees_82 : decode cL_agrees 82 = .ok (.iconst 0, 1) := by decide +kernel
theorem dL_agrees_83 : decode cL_agrees 83 = .ok (.istore 9, 2) := by decide +kernel
theorem dL_agrees_85 : decode cL_agrees 85 = .ok (.sipush 999, 3) := by decide +kernel
theorem dL_agrees_88 : decode cL_agrees 88 = .ok (.istore 10, 2) := by decide +kernel
theorem dL_agrees_90 : decode cL_agrees 90 = .ok (.iconst 0, 1) := by decide +kernel
theorem dL_agrees_91 : decode cL_agrees 91 = .ok (.istore 11, 2) := by decide +kernel
theorem dL_agrees_93 : decode cL_agrees 93 = .ok (.iconst 0, 1) := by decide +kernel
theorem dL_agrees_94 : decode cL_agrees 94 = .ok (.istore 12, 2) := by decide +kernel
theorem dL_agrees_96 : decode cL_agrees 96 = .ok (.iload 12, 2) := by decide +kernel
theorem dL_agrees_98 : decode cL_agrees 98 = .ok (.iload 4, 2) := by decide +kernel
theorem dL_agrees_100 : decode cL_agrees 100 = .ok (.if_icmp .ge 73, 3) := by decide +kernel
theorem dL_agrees_103 : decode cL_agrees 103 = .ok (.iload 8, 2) := by decide +kernel
theorem dL_agrees_105 : decode cL_agrees 105 = .ok (.iload 12, 2) := by decide +kernel
theorem dL_agrees_107 : decode cL_agrees 107 = .ok (.ishr, 1) := by decide +kernel
theorem dL_agrees_108 : decode cL_agrees 108 = .ok (.iconst 1, 1) := by decide +kernel
theorem dL_agrees_109 : decode cL_agrees 109 = .ok (.iand, 1) := by decide +kernel
theorem dL_agrees_110 : decode cL_agrees 110 = .ok (.ifCond .ne 6, 3) := by decide +kernel
theorem dL_agrees_113 : decode cL_agrees 113 = .ok (.goto 54, 3) := by decide +kernel
theorem dL_agrees_116 : decode cL_agrees 116 = .ok (.iload 9, 2) := by decide +kernel
theorem dL_agrees_118 : decode cL_agrees 118 = .ok (.aload_n 0, 1) := by decide +kernel
theorem dL_agrees_119 : decode cL_agrees 119 = .ok (.iload_n 1, 1) := by decide +kernel
theorem dL_agrees_120 : decode cL_agrees 120 = .ok (.aload_n 3, 1) := by decide +kernel
theorem dL_agrees_121 : decode cL_agrees 121 = .ok (.iload 12, 2) := by decide +kernel
theorem dL_agrees_123 : decode cL_agrees 123 = .ok (.iaload, 1) := by decide +kernel
theorem dL_agrees_124 : decode cL_agrees 124 = .ok (.iconst 0, 1) := by decide +kernel
theorem dL_agrees_125 : decode cL_agrees 125 = .ok (.invokevirtual 185, 3) := by decide +kernel
theorem dL_agrees_128 : decode cL_agrees 128 = .ok (.invokestatic 144, 3) := by decide +kernel
theorem dL_agrees_131 : decode cL_agrees 131 = .ok (.istore 9, 2) := by decide +kernel
theorem dL_agrees_133 : decode cL_agrees 133 = .ok (.iload 10, 2) := by decide +kernel
theorem dL_agrees_135 : decode cL_agrees 135 = .ok (.aload_n 0, 1) := by decide +kernel
theorem dL_agrees_136 : decode cL_agrees 136 = .ok (.iload_n 1, 1) := by decide +kernel
theorem dL_agrees_137 : decode cL_agrees 137 = .ok (.aload_n 3, 1) := by decide +kernel
theorem dL_agrees_138 : decode cL_agrees 138 = .ok (.iload 12, 2) := by decide +kernel
theorem dL_agrees_140 : decode cL_agrees 140 = .ok (.iaload, 1) := by decide +kernel
theorem dL_agrees_141 : decode cL_agrees 141 = .ok (.iconst 1, 1) := by decide +kernel
theorem dL_agrees_142 : decode cL_agrees 142 = .ok (.invokevirtual 185, 3) := by decide +kernel
theorem dL_agrees_145 : decode cL_agrees 145 = .ok (.invokestatic 30, 3) := by decide +kernel
theorem dL_agrees_148 : decode cL_agrees 148 = .ok (.istore 10, 2) := by decide +kernel
theorem dL_agrees_150 : decode cL_agrees 150 = .ok (.iload 11, 2) := by decide +kernel
theorem dL_agrees_152 : decode cL_agrees 152 = .ok (.iconst 1, 1) := by decide +kernel
theorem dL_agrees_153 : decode cL_agrees 153 = .ok (.aload_n 0, 1) := by decide +kernel
theorem dL_agrees_154 : decode cL_agrees 154 = .ok (.iload_n 1, 1) := by decide +kernel
theorem dL_agrees_155 : decode cL_agrees 155 = .ok (.aload_n 3, 1) := by decide +kernel
theorem dL_agrees_156 : decode cL_agrees 156 = .ok (.iload 12, 2) := by decide +kernel
theorem dL_agrees_158 : decode cL_agrees 158 = .ok (.iaload, 1) := by decide +kernel
theorem dL_agrees_159 : decode cL_agrees 159 = .ok (.iconst 0, 1) := by decide +kernel
theorem dL_agrees_160 : decode cL_agrees 160 = .ok (.invokevirtual 140, 3) := by decide +kernel
theorem dL_agrees_163 : decode cL_agrees 163 = .ok (.ishl, 1) := by decide +kernel
theorem dL_agrees_164 : decode cL_agrees 164 = .ok (.ior, 1) := by decide +kernel
theorem dL_agrees_165 : decode cL_agrees 165 = .ok (.istore 11, 2) := by decide +kernel
theorem dL_agrees_167 : decode cL_agrees 167 = .ok (.iinc 12 1, 3) := by decide +kernel
theorem dL_agrees_170 : decode cL_agrees 170 = .ok (.goto (-74), 3) := by decide +kernel
theorem dL_agrees_173 : decode cL_agrees 173 = .ok (.iload 11, 2) := by decide +kernel
theorem dL_agrees_175 : decode cL_agrees 175 = .ok (.invokestatic 207, 3) := by decide +kernel
theorem dL_agrees_178 : decode cL_agrees 178 = .ok (.iload 5, 2) := by decide +kernel
theorem dL_agrees_180 : decode cL_agrees 180 = .ok (.invokestatic 207, 3) := by decide +kernel
theorem dL_agrees_183 : decode cL_agrees 183 = .ok (.isub, 1) := by decide +kernel
theorem dL_agrees_184 : decode cL_agrees 184 = .ok (.istore 12, 2) := by decide +kernel
theorem dL_agrees_186 : decode cL_agrees 186 = .ok (.iload 9, 2) := by decide +kernel
theorem dL_agrees_188 : decode cL_agrees 188 = .ok (.iload 10, 2) := by decide +kernel
theorem dL_agrees_190 : decode cL_agrees 190 = .ok (.if_icmp .gt 35, 3) := by decide +kernel
theorem dL_agrees_193 : decode cL_agrees 193 = .ok (.iload 12, 2) := by decide +kernel
theorem dL_agrees_195 : decode cL_agrees 195 = .ok (.ifCond .lt 30, 3) := by decide +kernel
theorem dL_agrees_198 : decode cL_agrees 198 = .ok (.iload 12, 2) := by decide +kernel
theorem dL_agrees_200 : decode cL_agrees 200 = .ok (.ifCond .ne 13, 3) := by decide +kernel
theorem dL_agrees_203 : decode cL_agrees 203 = .ok (.iload 11, 2) := by decide +kernel
theorem dL_agrees_205 : decode cL_agrees 205 = .ok (.iload 5, 2) := by decide +kernel
theorem dL_agrees_207 : decode cL_agrees 207 = .ok (.if_icmp .le 6, 3) := by decide +kernel
theorem dL_agrees_210 : decode cL_agrees 210 = .ok (.goto 15, 3) := by decide +kernel
theorem dL_agrees_213 : decode cL_agrees 213 = .ok (.iload 11, 2) := by decide +kernel
theorem dL_agrees_215 : decode cL_agrees 215 = .ok (.istore 5, 2) := by decide +kernel
theorem dL_agrees_217 : decode cL_agrees 217 = .ok (.iload 9, 2) := by decide +kernel
theorem dL_agrees_219 : decode cL_agrees 219 = .ok (.istore 6, 2) := by decide +kernel
theorem dL_agrees_221 : decode cL_agrees 221 = .ok (.iload 10, 2) := by decide +kernel
theorem dL_agrees_223 : decode cL_agrees 223 = .ok (.istore 7, 2) := by decide +kernel
theorem dL_agrees_225 : decode cL_agrees 225 = .ok (.iinc 8 1, 3) := by decide +kernel
theorem dL_agrees_228 : decode cL_agrees 228 = .ok (.goto (-155), 3) := by decide +kernel
theorem dL_agrees_231 : decode cL_agrees 231 = .ok (.aload_n 0, 1) := by decide +kernel
theorem dL_agrees_232 : decode cL_agrees 232 = .ok (.iload_n 1, 1) := by decide +kernel
theorem dL_agrees_233 : decode cL_agrees 233 = .ok (.iload_n 2, 1) := by decide +kernel
theorem dL_agrees_234 : decode cL_agrees 234 = .ok (.invokevirtual 212, 3) := by decide +kernel
theorem dL_agrees_237 : decode cL_agrees 237 = .ok (.iload 5, 2) := by decide +kernel
theorem dL_agrees_239 : decode cL_agrees 239 = .ok (.if_icmp .ne 31, 3) := by decide +kernel
theorem dL_agrees_242 : decode cL_agrees 242 = .ok (.aload_n 0, 1) := by decide +kernel
theorem dL_agrees_243 : decode cL_agrees 243 = .ok (.iload_n 1, 1) := by decide +kernel
theorem dL_agrees_244 : decode cL_agrees 244 = .ok (.iload_n 2, 1) := by decide +kernel
theorem dL_agrees_245 : decode cL_agrees 245 = .ok (.iconst 0, 1) := by decide +kernel
theorem dL_agrees_246 : decode cL_agrees 246 = .ok (.invokevirtual 215, 3) := by decide +kernel
theorem dL_agrees_249 : decode cL_agrees 249 = .ok (.iload 6, 2) := by decide +kernel
theorem dL_agrees_251 : decode cL_agrees 251 = .ok (.if_icmp .ne 19, 3) := by decide +kernel
theorem dL_agrees_254 : decode cL_agrees 254 = .ok (.aload_n 0, 1) := by decide +kernel
theorem dL_agrees_255 : decode cL_agrees 255 = .ok (.iload_n 1, 1) := by decide +kernel
theorem dL_agrees_256 : decode cL_agrees 256 = .ok (.iload_n 2, 1) := by decide +kernel
theorem dL_agrees_257 : decode cL_agrees 257 = .ok (.iconst 1, 1) := by decide +kernel
theorem dL_agrees_258 : decode cL_agrees 258 = .ok (.invokevirtual 215, 3) := by decide +kernel
theorem dL_agrees_261 : decode cL_agrees 261 = .ok (.iload 7, 2) := by decide +kernel
theorem dL_agrees_263 : decode cL_agrees 263 = .ok (.if_icmp .ne 7, 3) := by decide +kernel
theorem dL_agrees_266 : decode cL_agrees 266 = .ok (.iconst 1, 1) := by decide +kernel
theorem dL_agrees_267 : decode cL_agrees 267 = .ok (.goto 4, 3) := by decide +kernel
theorem dL_agrees_270 : decode cL_agrees 270 = .ok (.iconst 0, 1) := by decide +kernel
theorem dL_agrees_271 : decode cL_agrees 271 = .ok (.ireturn, 1) := by decide +kernel
theorem dL_chooses_0 : decode cL_chooses 0 = .ok (.iconst 3, 1) := by decide +kernel
theorem dL_chooses_1 : decode cL_chooses 1 = .ok (.newarray .int, 2) := by decide +kernel
theorem dL_chooses_3 : decode cL_chooses 3 = .ok (.dup, 1) := by decide +kernel
theorem dL_chooses_4 : decode cL_chooses 4 = .ok (.iconst 0, 1) := by decide +kernel
theorem dL_chooses_5 : decode cL_chooses 5 = .ok (.iconst (-1), 1) := by decide +kernel
theorem dL_chooses_6 : decode cL_chooses 6 = .ok (.iastore, 1) := by decide +kernel
theorem dL_chooses_7 : decode cL_chooses 7 = .ok (.dup, 1) := by decide +kernel
theorem dL_chooses_8 : decode cL_chooses 8 = .ok (.iconst 1, 1) := by decide +kernel
theorem dL_chooses_9 : decode cL_chooses 9 = .ok (.iconst (-1), 1) := by decide +kernel
theorem dL_chooses_10 : decode cL_chooses 10 = .ok (.iastore, 1) := by decide +kernel
theorem dL_chooses_11 : decode cL_chooses 11 = .ok (.dup, 1) := by decide +kernel
theorem dL_chooses_12 : decode cL_chooses 12 = .ok (.iconst 2, 1) := by decide +kernel
theorem dL_chooses_13 : decode cL_chooses 13 = .ok (.iconst (-1), 1) := by decide +kernel
theorem dL_chooses_14 : decode cL_chooses 14 = .ok (.iastore, 1) := by decide +kernel
theorem dL_chooses_15 : decode cL_chooses 15 = .ok (.astore_n 2, 1) := by decide +kernel
theorem dL_chooses_16 : decode cL_chooses 16 = .ok (.iconst 0, 1) := by decide +kernel
theorem dL_chooses_17 : decode cL_chooses 17 = .ok (.istore_n 3, 1) := by decide +kernel
theorem dL_chooses_18 : decode cL_chooses 18 = .ok (.iconst 0, 1) := by decide +kernel
theorem dL_chooses_19 : decode cL_chooses 19 = .ok (.istore 4, 2) := by decide +kernel
theorem dL_chooses_21 : decode cL_chooses 21 = .ok (.iload 4, 2) := by decide +kernel
theorem dL_chooses_23 : decode cL_chooses 23 = .ok (.aload_n 0, 1) := by decide +kernel
theorem dL_chooses_24 : decode cL_chooses 24 = .ok (.iconst 1, 1) := by decide +kernel
theorem dL_chooses_25 : decode cL_chooses 25 = .ok (.invokevirtual 104, 3) := by decide +kernel
theorem dL_chooses_28 : decode cL_chooses 28 = .ok (.if_icmp .ge 231, 3) := by decide +kernel
theorem dL_chooses_31 : decode cL_chooses 31 = .ok (.aload_n 0, 1) := by decide +kernel
theorem dL_chooses_32 : decode cL_chooses 32 = .ok (.iload_n 1, 1) := by decide +kernel
theorem dL_chooses_33 : decode cL_chooses 33 = .ok (.iload 4, 2) := by decide +kernel
theorem dL_chooses_35 : decode cL_chooses 35 = .ok (.iconst 0, 1) := by decide +kernel
theorem dL_chooses_36 : decode cL_chooses 36 = .ok (.invokevirtual 195, 3) := by decide +kernel
theorem dL_chooses_39 : decode cL_chooses 39 = .ok (.istore 5, 2) := by decide +kernel
theorem dL_chooses_41 : decode cL_chooses 41 = .ok (.aload_n 0, 1) := by decide +kernel
theorem dL_chooses_42 : decode cL_chooses 42 = .ok (.iload_n 1, 1) := by decide +kernel
theorem dL_chooses_43 : decode cL_chooses 43 = .ok (.iload 4, 2) := by decide +kernel
theorem dL_chooses_45 : decode cL_chooses 45 = .ok (.iconst 1, 1) := by decide +kernel
theorem dL_chooses_46 : decode cL_chooses 46 = .ok (.invokevirtual 195, 3) := by decide +kernel
theorem dL_chooses_49 : decode cL_chooses 49 = .ok (.istore 6, 2) := by decide +kernel
theorem dL_chooses_51 : decode cL_chooses 51 = .ok (.aload_n 2, 1) := by decide +kernel
theorem dL_chooses_52 : decode cL_chooses 52 = .ok (.iconst 0, 1) := by decide +kernel
theorem dL_chooses_53 : decode cL_chooses 53 = .ok (.aload_n 2, 1) := by decide +kernel
theorem dL_chooses_54 : decode cL_chooses 54 = .ok (.iconst 0, 1) := by decide +kernel
theorem dL_chooses_55 : decode cL_chooses 55 = .ok (.iaload, 1) := by decide +kernel
theorem dL_chooses_56 : decode cL_chooses 56 = .ok (.ifCond .lt 17, 3) := by decide +kernel
theorem dL_chooses_59 : decode cL_chooses 59 = .ok (.iload 6, 2) := by decide +kernel
theorem dL_chooses_61 : decode cL_chooses 61 = .ok (.aload_n 0, 1) := by decide +kernel
theorem dL_chooses_62 : decode cL_chooses 62 = .ok (.iload_n 1, 1) := by decide +kernel
theorem dL_chooses_63 : decode cL_chooses 63 = .ok (.aload_n 2, 1) := by decide +kernel
theorem dL_chooses_64 : decode cL_chooses 64 = .ok (.iconst 0, 1) := by decide +kernel
theorem dL_chooses_65 : decode cL_chooses 65 = .ok (.iaload, 1) := by decide +kernel
theorem dL_chooses_66 : decode cL_chooses 66 = .ok (.iconst 1, 1) := by decide +kernel
theorem dL_chooses_67 : decode cL_chooses 67 = .ok (.invokevirtual 195, 3) := by decide +kernel
theorem dL_chooses_70 : decode cL_chooses 70 = .ok (.if_icmp .ge 8, 3) := by decide +kernel
theorem dL_chooses_73 : decode cL_chooses 73 = .ok (.iload 4, 2) := by decide +kernel
theorem dL_chooses_75 : decode cL_chooses 75 = .ok (.goto 6, 3) := by decide +kernel
theorem dL_chooses_78 : decode cL_chooses 78 = .ok (.aload_n 2, 1) := by decide +kernel
theorem dL_chooses_79 : decode cL_chooses 79 = .ok (.iconst 0, 1) := by decide +kernel
theorem dL_chooses_80 : decode cL_chooses 80 = .ok (.iaload, 1) := by decide +kernel
theorem dL_chooses_81 : decode cL_chooses 81 = .ok (.iastore, 1) := by decide +kernel
theorem dL_chooses_82 : decode cL_chooses 82 = .ok (.aload_n 2, 1) := by decide +kernel
theorem dL_chooses_83 : decode cL_chooses 83 = .ok (.iconst 1, 1) := by decide +kernel
theorem dL_chooses_84 : decode cL_chooses 84 = .ok (.aload_n 2, 1) := by decide +kernel
theorem dL_chooses_85 : decode cL_chooses 85 = .ok (.iconst 1, 1) := by decide +kernel
theorem dL_chooses_86 : decode cL_chooses 86 = .ok (.iaload, 1) := by decide +kernel
theorem dL_chooses_87 : decode cL_chooses 87 = .ok (.ifCond .lt 17, 3) := by decide +kernel
theorem dL_chooses_90 : decode cL_chooses 90 = .ok (.iload 5, 2) := by decide +kernel
theorem dL_chooses_92 : decode cL_chooses 92 = .ok (.aload_n 0, 1) := by decide +kernel
theorem dL_chooses_93 : decode cL_chooses 93 = .ok (.iload_n 1, 1) := by decide +kernel
theorem dL_chooses_94 : decode cL_chooses 94 = .ok (.aload_n 2, 1) := by decide +kernel
theorem dL_chooses_95 : decode cL_chooses 95 = .ok (.iconst 1, 1) := by decide +kernel
theorem dL_chooses_96 : decode cL_chooses 96 = .ok (.iaload, 1) := by decide +kernel
theorem dL_chooses_97 : decode cL_chooses 97 = .ok (.iconst 0, 1) := by decide +kernel
theorem dL_chooses_98 : decode cL_chooses 98 = .ok (.invokevirtual 195, 3) := by decide +kernel
theorem dL_chooses_101 : decode cL_chooses 101 = .ok (.if_icmp .ge 8, 3) := by decide +kernel
theorem dL_chooses_104 : decode cL_chooses 104 = .ok (.iload 4, 2) := by decide +kernel
theorem dL_chooses_106 : decode cL_chooses 106 = .ok (.goto 6, 3) := by decide +kernel
theorem dL_chooses_109 : decode cL_chooses 109 = .ok (.aload_n 2, 1) := by decide +kernel
theorem dL_chooses_110 : decode cL_chooses 110 = .ok (.iconst 1, 1) := by decide +kernel
theorem dL_chooses_111 : decode cL_chooses 111 = .ok (.iaload, 1) := by decide +kernel
theorem dL_chooses_112 : decode cL_chooses 112 = .ok (.iastore, 1) := by decide +kernel
theorem dL_chooses_113 : decode cL_chooses 113 = .ok (.aload_n 2, 1) := by decide +kernel
theorem dL_chooses_114 : decode cL_chooses 114 = .ok (.iconst 2, 1) := by decide +kernel
theorem dL_chooses_115 : decode cL_chooses 115 = .ok (.aload_n 2, 1) := by decide +kernel
theorem dL_chooses_116 : decode cL_chooses 116 = .ok (.iconst 2, 1) := by decide +kernel
theorem dL_chooses_117 : decode cL_chooses 117 = .ok (.iaload, 1) := by decide +kernel
theorem dL_chooses_118 : decode cL_chooses 118 = .ok (.ifCond .lt 30, 3) := by decide +kernel
theorem dL_chooses_121 : decode cL_chooses 121 = .ok (.iload 5, 2) := by decide +kernel
theorem dL_chooses_123 : decode cL_chooses 123 = .ok (.iload 6, 2) := by decide +kernel
theorem dL_chooses_125 : decode cL_chooses 125 = .ok (.iadd, 1) := by decide +kernel
theorem dL_chooses_126 : decode cL_chooses 126 = .ok (.aload_n 0, 1) := by decide +kernel
theorem dL_chooses_127 : decode cL_chooses 127 = .ok (.iload_n 1, 1) := by decide +kernel
theorem dL_chooses_128 : decode cL_chooses 128 = .ok (.aload_n 2, 1) := by decide +kernel
theorem dL_chooses_129 : decode cL_chooses 129 = .ok (.iconst 2, 1) := by decide +kernel
theorem dL_chooses_130 : decode cL_chooses 130 = .ok (.iaload, 1) := by decide +kernel
theorem dL_chooses_131 : decode cL_chooses 131 = .ok (.iconst 0, 1) := by decide +kernel
theorem dL_chooses_132 : decode cL_chooses 132 = .ok (.invokevirtual 195, 3) := by decide +kernel
theorem dL_chooses_135 : decode cL_chooses 135 = .ok (.aload_n 0, 1) := by decide +kernel
theorem dL_chooses_136 : decode cL_chooses 136 = .ok (.iload_n 1, 1) := by decide +kernel
theorem dL_chooses_137 : decode cL_chooses 137 = .ok (.aload_n 2, 1) := by decide +kernel
theorem dL_chooses_138 : decode cL_chooses 138 = .ok (.iconst 2, 1) := by decide +kernel
theorem dL_chooses_139 : decode cL_chooses 139 = .ok (.iaload, 1) := by decide +kernel
theorem dL_chooses_140 : decode cL_chooses 140 = .ok (.iconst 1, 1) := by decide +kernel
theorem dL_chooses_141 : decode cL_chooses 141 = .ok (.invokevirtual 195, 3) := by decide +kernel
theorem dL_chooses_144 : decode cL_chooses 144 = .ok (.iadd, 1) := by decide +kernel
theorem dL_chooses_145 : decode cL_chooses 145 = .ok (.if_icmp .ge 8, 3) := by decide +kernel
theorem dL_chooses_148 : decode cL_chooses 148 = .ok (.iload 4, 2) := by decide +kernel
theorem dL_chooses_150 : decode cL_chooses 150 = .ok (.goto 6, 3) := by decide +kernel
theorem dL_chooses_153 : decode cL_chooses 153 = .ok (.aload_n 2, 1) := by decide +kernel
theorem dL_chooses_154 : decode cL_chooses 154 = .ok (.iconst 2, 1) := by decide +kernel
theorem dL_chooses_155 : decode cL_chooses 155 = .ok (.iaload, 1) := by decide +kernel
theorem dL_chooses_156 : decode cL_chooses 156 = .ok (.iastore, 1) := by decide +kernel
theorem dL_chooses_157 : decode cL_chooses 157 = .ok (.iconst (-1), 1) := by decide +kernel
theorem dL_chooses_158 : decode cL_chooses 158 = .ok (.istore 7, 2) := by decide +kernel
theorem dL_chooses_160 : decode cL_chooses 160 = .ok (.iconst 0, 1) := by decide +kernel
theorem dL_chooses_161 : decode cL_chooses 161 = .ok (.istore 8, 2) := by decide +kernel
theorem dL_chooses_163 : decode cL_chooses 163 = .ok (.iload 8, 2) := by decide +kernel
theorem dL_chooses_165 : decode cL_chooses 165 = .ok (.aload_n 0, 1) := by decide +kernel
theorem dL_chooses_166 : decode cL_chooses 166 = .ok (.iload_n 1, 1) := by decide +kernel
theorem dL_chooses_167 : decode cL_chooses 167 = .ok (.invokevirtual 159, 3) := by decide +kernel
theorem dL_chooses_170 : decode cL_chooses 170 = .ok (.if_icmp .ge 43, 3) := by decide +kernel
theorem dL_chooses_173 : decode cL_chooses 173 = .ok (.aload_n 0, 1) := by decide +kernel
theorem dL_chooses_174 : decode cL_chooses 174 = .ok (.iload_n 1, 1) := by decide +kernel
theorem dL_chooses_175 : decode cL_chooses 175 = .ok (.iload 8, 2) := by decide +kernel
theorem dL_chooses_177 : decode cL_chooses 177 = .ok (.iconst 0, 1) := by decide +kernel
theorem dL_chooses_178 : decode cL_chooses 178 = .ok (.invokevirtual 140, 3) := by decide +kernel
theorem dL_chooses_181 : decode cL_chooses 181 = .ok (.iload_n 1, 1) := by decide +kernel
theorem dL_chooses_182 : decode cL_chooses 182 = .ok (.if_icmp .ne 21, 3) := by decide +kernel
theorem dL_chooses_185 : decode cL_chooses 185 = .ok (.aload_n 0, 1) := by decide +kernel
theorem dL_chooses_186 : decode cL_chooses 186 = .ok (.iload_n 1, 1) := by decide +kernel
theorem dL_chooses_187 : decode cL_chooses 187 = .ok (.iload 8, 2) := by decide +kernel
theorem dL_chooses_189 : decode cL_chooses 189 = .ok (.iconst 3, 1) := by decide +kernel
theorem dL_chooses_190 : decode cL_chooses 190 = .ok (.invokevirtual 140, 3) := by decide +kernel
theorem dL_chooses_193 : decode cL_chooses 193 = .ok (.iload 4, 2) := by decide +kernel
theorem dL_chooses_195 : decode cL_chooses 195 = .ok (.if_icmp .ne 8, 3) := by decide +kernel
theorem dL_chooses_198 : decode cL_chooses 198 = .ok (.iload 8, 2) := by decide +kernel
