theorem dL_chooses_200 : decode cL_chooses 200 = .ok (.goto 5, 3) := by decide +kernel
theorem dL_chooses_203 : decode cL_chooses 203 = .ok (.iload 7, 2) := by decide +kernel
theorem dL_chooses_205 : decode cL_chooses 205 = .ok (.istore 7, 2) := by decide +kernel
theorem dL_chooses_207 : decode cL_chooses 207 = .ok (.iinc 8 1, 3) := by decide +kernel
theorem dL_chooses_210 : decode cL_chooses 210 = .ok (.goto (-47), 3) := by decide +kernel
theorem dL_chooses_213 : decode cL_chooses 213 = .ok (.aload_n 0, 1) := by decide +kernel
theorem dL_chooses_214 : decode cL_chooses 214 = .ok (.iload_n 1, 1) := by decide +kernel
theorem dL_chooses_215 : decode cL_chooses 215 = .ok (.iload 4, 2) := by decide +kernel
theorem dL_chooses_217 : decode cL_chooses 217 = .ok (.invokevirtual 218, 3) := by decide +kernel
theorem dL_chooses_220 : decode cL_chooses 220 = .ok (.iload 7, 2) := by decide +kernel
theorem dL_chooses_222 : decode cL_chooses 222 = .ok (.if_icmp .eq 5, 3) := by decide +kernel
theorem dL_chooses_225 : decode cL_chooses 225 = .ok (.iconst 0, 1) := by decide +kernel
theorem dL_chooses_226 : decode cL_chooses 226 = .ok (.ireturn, 1) := by decide +kernel
theorem dL_chooses_227 : decode cL_chooses 227 = .ok (.iload_n 3, 1) := by decide +kernel
theorem dL_chooses_228 : decode cL_chooses 228 = .ok (.iload 7, 2) := by decide +kernel
theorem dL_chooses_230 : decode cL_chooses 230 = .ok (.ifCond .ge 20, 3) := by decide +kernel
theorem dL_chooses_233 : decode cL_chooses 233 = .ok (.iload 5, 2) := by decide +kernel
theorem dL_chooses_235 : decode cL_chooses 235 = .ok (.ifCond .gt 11, 3) := by decide +kernel
theorem dL_chooses_238 : decode cL_chooses 238 = .ok (.iload 6, 2) := by decide +kernel
theorem dL_chooses_240 : decode cL_chooses 240 = .ok (.sipush 999, 3) := by decide +kernel
theorem dL_chooses_243 : decode cL_chooses 243 = .ok (.if_icmp .ge 7, 3) := by decide +kernel
theorem dL_chooses_246 : decode cL_chooses 246 = .ok (.iconst 1, 1) := by decide +kernel
theorem dL_chooses_247 : decode cL_chooses 247 = .ok (.goto 4, 3) := by decide +kernel
theorem dL_chooses_250 : decode cL_chooses 250 = .ok (.iconst 0, 1) := by decide +kernel
theorem dL_chooses_251 : decode cL_chooses 251 = .ok (.iadd, 1) := by decide +kernel
theorem dL_chooses_252 : decode cL_chooses 252 = .ok (.istore_n 3, 1) := by decide +kernel
theorem dL_chooses_253 : decode cL_chooses 253 = .ok (.iinc 4 1, 3) := by decide +kernel
theorem dL_chooses_256 : decode cL_chooses 256 = .ok (.goto (-235), 3) := by decide +kernel
theorem dL_chooses_259 : decode cL_chooses 259 = .ok (.iconst 0, 1) := by decide +kernel
theorem dL_chooses_260 : decode cL_chooses 260 = .ok (.istore 4, 2) := by decide +kernel
theorem dL_chooses_262 : decode cL_chooses 262 = .ok (.iload 4, 2) := by decide +kernel
theorem dL_chooses_264 : decode cL_chooses 264 = .ok (.iconst 3, 1) := by decide +kernel
theorem dL_chooses_265 : decode cL_chooses 265 = .ok (.if_icmp .ge 25, 3) := by decide +kernel
theorem dL_chooses_268 : decode cL_chooses 268 = .ok (.aload_n 0, 1) := by decide +kernel
theorem dL_chooses_269 : decode cL_chooses 269 = .ok (.iload_n 1, 1) := by decide +kernel
theorem dL_chooses_270 : decode cL_chooses 270 = .ok (.iload 4, 2) := by decide +kernel
theorem dL_chooses_272 : decode cL_chooses 272 = .ok (.invokevirtual 221, 3) := by decide +kernel
theorem dL_chooses_275 : decode cL_chooses 275 = .ok (.aload_n 2, 1) := by decide +kernel
theorem dL_chooses_276 : decode cL_chooses 276 = .ok (.iload 4, 2) := by decide +kernel
theorem dL_chooses_278 : decode cL_chooses 278 = .ok (.iaload, 1) := by decide +kernel
theorem dL_chooses_279 : decode cL_chooses 279 = .ok (.if_icmp .eq 5, 3) := by decide +kernel
theorem dL_chooses_282 : decode cL_chooses 282 = .ok (.iconst 0, 1) := by decide +kernel
theorem dL_chooses_283 : decode cL_chooses 283 = .ok (.ireturn, 1) := by decide +kernel
theorem dL_chooses_284 : decode cL_chooses 284 = .ok (.iinc 4 1, 3) := by decide +kernel
theorem dL_chooses_287 : decode cL_chooses 287 = .ok (.goto (-25), 3) := by decide +kernel
theorem dL_chooses_290 : decode cL_chooses 290 = .ok (.aload_n 0, 1) := by decide +kernel
theorem dL_chooses_291 : decode cL_chooses 291 = .ok (.iload_n 1, 1) := by decide +kernel
theorem dL_chooses_292 : decode cL_chooses 292 = .ok (.invokevirtual 224, 3) := by decide +kernel
theorem dL_chooses_295 : decode cL_chooses 295 = .ok (.iload_n 3, 1) := by decide +kernel
theorem dL_chooses_296 : decode cL_chooses 296 = .ok (.if_icmp .eq 5, 3) := by decide +kernel
theorem dL_chooses_299 : decode cL_chooses 299 = .ok (.iconst 0, 1) := by decide +kernel
theorem dL_chooses_300 : decode cL_chooses 300 = .ok (.ireturn, 1) := by decide +kernel
theorem dL_chooses_301 : decode cL_chooses 301 = .ok (.aload_n 2, 1) := by decide +kernel
theorem dL_chooses_302 : decode cL_chooses 302 = .ok (.iconst 0, 1) := by decide +kernel
theorem dL_chooses_303 : decode cL_chooses 303 = .ok (.iaload, 1) := by decide +kernel
theorem dL_chooses_304 : decode cL_chooses 304 = .ok (.ifCond .ge 35, 3) := by decide +kernel
theorem dL_chooses_307 : decode cL_chooses 307 = .ok (.aload_n 0, 1) := by decide +kernel
theorem dL_chooses_308 : decode cL_chooses 308 = .ok (.iload_n 1, 1) := by decide +kernel
theorem dL_chooses_309 : decode cL_chooses 309 = .ok (.invokevirtual 227, 3) := by decide +kernel
theorem dL_chooses_312 : decode cL_chooses 312 = .ok (.ifCond .ne 25, 3) := by decide +kernel
theorem dL_chooses_315 : decode cL_chooses 315 = .ok (.aload_n 0, 1) := by decide +kernel
theorem dL_chooses_316 : decode cL_chooses 316 = .ok (.iload_n 1, 1) := by decide +kernel
theorem dL_chooses_317 : decode cL_chooses 317 = .ok (.invokevirtual 230, 3) := by decide +kernel
theorem dL_chooses_320 : decode cL_chooses 320 = .ok (.iconst (-1), 1) := by decide +kernel
theorem dL_chooses_321 : decode cL_chooses 321 = .ok (.if_icmp .ne 16, 3) := by decide +kernel
theorem dL_chooses_324 : decode cL_chooses 324 = .ok (.aload_n 0, 1) := by decide +kernel
theorem dL_chooses_325 : decode cL_chooses 325 = .ok (.iload_n 1, 1) := by decide +kernel
theorem dL_chooses_326 : decode cL_chooses 326 = .ok (.invokevirtual 233, 3) := by decide +kernel
theorem dL_chooses_329 : decode cL_chooses 329 = .ok (.iconst (-1), 1) := by decide +kernel
theorem dL_chooses_330 : decode cL_chooses 330 = .ok (.if_icmp .ne 7, 3) := by decide +kernel
theorem dL_chooses_333 : decode cL_chooses 333 = .ok (.iconst 1, 1) := by decide +kernel
theorem dL_chooses_334 : decode cL_chooses 334 = .ok (.goto 4, 3) := by decide +kernel
theorem dL_chooses_337 : decode cL_chooses 337 = .ok (.iconst 0, 1) := by decide +kernel
theorem dL_chooses_338 : decode cL_chooses 338 = .ok (.ireturn, 1) := by decide +kernel
theorem dL_chooses_339 : decode cL_chooses 339 = .ok (.iconst 0, 1) := by decide +kernel
theorem dL_chooses_340 : decode cL_chooses 340 = .ok (.istore 4, 2) := by decide +kernel
theorem dL_chooses_342 : decode cL_chooses 342 = .ok (.iconst 0, 1) := by decide +kernel
theorem dL_chooses_343 : decode cL_chooses 343 = .ok (.istore 5, 2) := by decide +kernel
theorem dL_chooses_345 : decode cL_chooses 345 = .ok (.iload 5, 2) := by decide +kernel
theorem dL_chooses_347 : decode cL_chooses 347 = .ok (.aload_n 0, 1) := by decide +kernel
theorem dL_chooses_348 : decode cL_chooses 348 = .ok (.iconst 1, 1) := by decide +kernel
theorem dL_chooses_349 : decode cL_chooses 349 = .ok (.invokevirtual 104, 3) := by decide +kernel
theorem dL_chooses_352 : decode cL_chooses 352 = .ok (.if_icmp .ge 50, 3) := by decide +kernel
theorem dL_chooses_355 : decode cL_chooses 355 = .ok (.iload 4, 2) := by decide +kernel
theorem dL_chooses_357 : decode cL_chooses 357 = .ok (.iload 5, 2) := by decide +kernel
theorem dL_chooses_359 : decode cL_chooses 359 = .ok (.aload_n 2, 1) := by decide +kernel
theorem dL_chooses_360 : decode cL_chooses 360 = .ok (.iconst 0, 1) := by decide +kernel
theorem dL_chooses_361 : decode cL_chooses 361 = .ok (.iaload, 1) := by decide +kernel
theorem dL_chooses_362 : decode cL_chooses 362 = .ok (.if_icmp .eq 30, 3) := by decide +kernel
theorem dL_chooses_365 : decode cL_chooses 365 = .ok (.aload_n 0, 1) := by decide +kernel
theorem dL_chooses_366 : decode cL_chooses 366 = .ok (.iload_n 1, 1) := by decide +kernel
theorem dL_chooses_367 : decode cL_chooses 367 = .ok (.iload 5, 2) := by decide +kernel
theorem dL_chooses_369 : decode cL_chooses 369 = .ok (.iconst 0, 1) := by decide +kernel
theorem dL_chooses_370 : decode cL_chooses 370 = .ok (.invokevirtual 195, 3) := by decide +kernel
theorem dL_chooses_373 : decode cL_chooses 373 = .ok (.aload_n 0, 1) := by decide +kernel
theorem dL_chooses_374 : decode cL_chooses 374 = .ok (.iload_n 1, 1) := by decide +kernel
theorem dL_chooses_375 : decode cL_chooses 375 = .ok (.aload_n 2, 1) := by decide +kernel
theorem dL_chooses_376 : decode cL_chooses 376 = .ok (.iconst 0, 1) := by decide +kernel
theorem dL_chooses_377 : decode cL_chooses 377 = .ok (.iaload, 1) := by decide +kernel
theorem dL_chooses_378 : decode cL_chooses 378 = .ok (.iconst 1, 1) := by decide +kernel
theorem dL_chooses_379 : decode cL_chooses 379 = .ok (.invokevirtual 195, 3) := by decide +kernel
theorem dL_chooses_382 : decode cL_chooses 382 = .ok (.if_icmp .ge 10, 3) := by decide +kernel
theorem dL_chooses_385 : decode cL_chooses 385 = .ok (.iconst 1, 1) := by decide +kernel
theorem dL_chooses_386 : decode cL_chooses 386 = .ok (.iload 5, 2) := by decide +kernel
theorem dL_chooses_388 : decode cL_chooses 388 = .ok (.ishl, 1) := by decide +kernel
theorem dL_chooses_389 : decode cL_chooses 389 = .ok (.goto 4, 3) := by decide +kernel
theorem dL_chooses_392 : decode cL_chooses 392 = .ok (.iconst 0, 1) := by decide +kernel
theorem dL_chooses_393 : decode cL_chooses 393 = .ok (.ior, 1) := by decide +kernel
theorem dL_chooses_394 : decode cL_chooses 394 = .ok (.istore 4, 2) := by decide +kernel
theorem dL_chooses_396 : decode cL_chooses 396 = .ok (.iinc 5 1, 3) := by decide +kernel
theorem dL_chooses_399 : decode cL_chooses 399 = .ok (.goto (-54), 3) := by decide +kernel
theorem dL_chooses_402 : decode cL_chooses 402 = .ok (.iconst (-1), 1) := by decide +kernel
theorem dL_chooses_403 : decode cL_chooses 403 = .ok (.istore 5, 2) := by decide +kernel
theorem dL_chooses_405 : decode cL_chooses 405 = .ok (.iconst 0, 1) := by decide +kernel
theorem dL_chooses_406 : decode cL_chooses 406 = .ok (.istore 6, 2) := by decide +kernel
theorem dL_chooses_408 : decode cL_chooses 408 = .ok (.iload 6, 2) := by decide +kernel
theorem dL_chooses_410 : decode cL_chooses 410 = .ok (.aload_n 0, 1) := by decide +kernel
theorem dL_chooses_411 : decode cL_chooses 411 = .ok (.iconst 1, 1) := by decide +kernel
theorem dL_chooses_412 : decode cL_chooses 412 = .ok (.invokevirtual 104, 3) := by decide +kernel
theorem dL_chooses_415 : decode cL_chooses 415 = .ok (.if_icmp .ge 52, 3) := by decide +kernel
theorem dL_chooses_418 : decode cL_chooses 418 = .ok (.iload 4, 2) := by decide +kernel
theorem dL_chooses_420 : decode cL_chooses 420 = .ok (.iconst 1, 1) := by decide +kernel
theorem dL_chooses_421 : decode cL_chooses 421 = .ok (.aload_n 2, 1) := by decide +kernel
theorem dL_chooses_422 : decode cL_chooses 422 = .ok (.iconst 0, 1) := by decide +kernel
theorem dL_chooses_423 : decode cL_chooses 423 = .ok (.iaload, 1) := by decide +kernel
theorem dL_chooses_424 : decode cL_chooses 424 = .ok (.ishl, 1) := by decide +kernel
theorem dL_chooses_425 : decode cL_chooses 425 = .ok (.ior, 1) := by decide +kernel
theorem dL_chooses_426 : decode cL_chooses 426 = .ok (.iload 6, 2) := by decide +kernel
theorem dL_chooses_428 : decode cL_chooses 428 = .ok (.ishr, 1) := by decide +kernel
theorem dL_chooses_429 : decode cL_chooses 429 = .ok (.iconst 1, 1) := by decide +kernel
theorem dL_chooses_430 : decode cL_chooses 430 = .ok (.iand, 1) := by decide +kernel
theorem dL_chooses_431 : decode cL_chooses 431 = .ok (.iconst 1, 1) := by decide +kernel
theorem dL_chooses_432 : decode cL_chooses 432 = .ok (.if_icmp .ne 29, 3) := by decide +kernel
theorem dL_chooses_435 : decode cL_chooses 435 = .ok (.iload 5, 2) := by decide +kernel
theorem dL_chooses_437 : decode cL_chooses 437 = .ok (.ifCond .lt 20, 3) := by decide +kernel
theorem dL_chooses_440 : decode cL_chooses 440 = .ok (.aload_n 0, 1) := by decide +kernel
theorem dL_chooses_441 : decode cL_chooses 441 = .ok (.iload_n 1, 1) := by decide +kernel
theorem dL_chooses_442 : decode cL_chooses 442 = .ok (.iload 6, 2) := by decide +kernel
theorem dL_chooses_444 : decode cL_chooses 444 = .ok (.invokestatic 236, 3) := by decide +kernel
theorem dL_chooses_447 : decode cL_chooses 447 = .ok (.aload_n 0, 1) := by decide +kernel
theorem dL_chooses_448 : decode cL_chooses 448 = .ok (.iload_n 1, 1) := by decide +kernel
theorem dL_chooses_449 : decode cL_chooses 449 = .ok (.iload 5, 2) := by decide +kernel
theorem dL_chooses_451 : decode cL_chooses 451 = .ok (.invokestatic 236, 3) := by decide +kernel
theorem dL_chooses_454 : decode cL_chooses 454 = .ok (.if_icmp .le 7, 3) := by decide +kernel
theorem dL_chooses_457 : decode cL_chooses 457 = .ok (.iload 6, 2) := by decide +kernel
theorem dL_chooses_459 : decode cL_chooses 459 = .ok (.istore 5, 2) := by decide +kernel
theorem dL_chooses_461 : decode cL_chooses 461 = .ok (.iinc 6 1, 3) := by decide +kernel
theorem dL_chooses_464 : decode cL_chooses 464 = .ok (.goto (-56), 3) := by decide +kernel
theorem dL_chooses_467 : decode cL_chooses 467 = .ok (.aload_n 0, 1) := by decide +kernel
theorem dL_chooses_468 : decode cL_chooses 468 = .ok (.iload_n 1, 1) := by decide +kernel
theorem dL_chooses_469 : decode cL_chooses 469 = .ok (.invokevirtual 227, 3) := by decide +kernel
theorem dL_chooses_472 : decode cL_chooses 472 = .ok (.iload 4, 2) := by decide +kernel
theorem dL_chooses_474 : decode cL_chooses 474 = .ok (.if_icmp .ne 53, 3) := by decide +kernel
theorem dL_chooses_477 : decode cL_chooses 477 = .ok (.aload_n 0, 1) := by decide +kernel
theorem dL_chooses_478 : decode cL_chooses 478 = .ok (.iload_n 1, 1) := by decide +kernel
theorem dL_chooses_479 : decode cL_chooses 479 = .ok (.invokevirtual 230, 3) := by decide +kernel
theorem dL_chooses_482 : decode cL_chooses 482 = .ok (.iload 4, 2) := by decide +kernel
theorem dL_chooses_484 : decode cL_chooses 484 = .ok (.ifCond .ne 7, 3) := by decide +kernel
theorem dL_chooses_487 : decode cL_chooses 487 = .ok (.iconst (-1), 1) := by decide +kernel
theorem dL_chooses_488 : decode cL_chooses 488 = .ok (.goto 5, 3) := by decide +kernel
theorem dL_chooses_491 : decode cL_chooses 491 = .ok (.iload 5, 2) := by decide +kernel
theorem dL_chooses_493 : decode cL_chooses 493 = .ok (.if_icmp .ne 34, 3) := by decide +kernel
theorem dL_chooses_496 : decode cL_chooses 496 = .ok (.aload_n 0, 1) := by decide +kernel
theorem dL_chooses_497 : decode cL_chooses 497 = .ok (.iload_n 1, 1) := by decide +kernel
theorem dL_chooses_498 : decode cL_chooses 498 = .ok (.invokevirtual 233, 3) := by decide +kernel
theorem dL_chooses_501 : decode cL_chooses 501 = .ok (.aload_n 0, 1) := by decide +kernel
theorem dL_chooses_502 : decode cL_chooses 502 = .ok (.iload_n 1, 1) := by decide +kernel
theorem dL_chooses_503 : decode cL_chooses 503 = .ok (.aload_n 2, 1) := by decide +kernel
theorem dL_chooses_504 : decode cL_chooses 504 = .ok (.iconst 0, 1) := by decide +kernel
theorem dL_chooses_505 : decode cL_chooses 505 = .ok (.iaload, 1) := by decide +kernel
theorem dL_chooses_506 : decode cL_chooses 506 = .ok (.iconst 1, 1) := by decide +kernel
theorem dL_chooses_507 : decode cL_chooses 507 = .ok (.invokevirtual 195, 3) := by decide +kernel
theorem dL_chooses_510 : decode cL_chooses 510 = .ok (.aload_n 0, 1) := by decide +kernel
theorem dL_chooses_511 : decode cL_chooses 511 = .ok (.iload_n 1, 1) := by decide +kernel
theorem dL_chooses_512 : decode cL_chooses 512 = .ok (.aload_n 2, 1) := by decide +kernel
theorem dL_chooses_513 : decode cL_chooses 513 = .ok (.iconst 1, 1) := by decide +kernel
theorem dL_chooses_514 : decode cL_chooses 514 = .ok (.iaload, 1) := by decide +kernel
theorem dL_chooses_515 : decode cL_chooses 515 = .ok (.iconst 0, 1) := by decide +kernel
theorem dL_chooses_516 : decode cL_chooses 516 = .ok (.invokevirtual 195, 3) := by decide +kernel
theorem dL_chooses_519 : decode cL_chooses 519 = .ok (.isub, 1) := by decide +kernel
theorem dL_chooses_520 : decode cL_chooses 520 = .ok (.if_icmp .ne 7, 3) := by decide +kernel
theorem dL_chooses_523 : decode cL_chooses 523 = .ok (.iconst 1, 1) := by decide +kernel
theorem dL_chooses_524 : decode cL_chooses 524 = .ok (.goto 4, 3) := by decide +kernel
theorem dL_chooses_527 : decode cL_chooses 527 = .ok (.iconst 0, 1) := by decide +kernel
theorem dL_chooses_528 : decode cL_chooses 528 = .ok (.ireturn, 1) := by decide +kernel
theorem dL_width_0 : decode cL_width 0 = .ok (.aload_n 0, 1) := by decide +kernel
theorem dL_width_1 : decode cL_width 1 = .ok (.iload_n 1, 1) := by decide +kernel
theorem dL_width_2 : decode cL_width 2 = .ok (.iload_n 2, 1) := by decide +kernel
theorem dL_width_3 : decode cL_width 3 = .ok (.iconst 1, 1) := by decide +kernel
theorem dL_width_4 : decode cL_width 4 = .ok (.invokevirtual 195, 3) := by decide +kernel
theorem dL_width_7 : decode cL_width 7 = .ok (.aload_n 0, 1) := by decide +kernel
theorem dL_width_8 : decode cL_width 8 = .ok (.iload_n 1, 1) := by decide +kernel
theorem dL_width_9 : decode cL_width 9 = .ok (.iload_n 2, 1) := by decide +kernel
theorem dL_width_10 : decode cL_width 10 = .ok (.iconst 0, 1) := by decide +kernel
theorem dL_width_11 : decode cL_width 11 = .ok (.invokevirtual 195, 3) := by decide +kernel
theorem dL_width_14 : decode cL_width 14 = .ok (.isub, 1) := by decide +kernel
theorem dL_width_15 : decode cL_width 15 = .ok (.ireturn, 1) := by decide +kernel
theorem dL_commons_0 : decode cL_commons 0 = .ok (.iconst 0, 1) := by decide +kernel
theorem dL_commons_1 : decode cL_commons 1 = .ok (.istore_n 1, 1) := by decide +kernel
theorem dL_commons_2 : decode cL_commons 2 = .ok (.iload_n 1, 1) := by decide +kernel
theorem dL_commons_3 : decode cL_commons 3 = .ok (.aload_n 0, 1) := by decide +kernel
theorem dL_commons_4 : decode cL_commons 4 = .ok (.iconst 1, 1) := by decide +kernel
theorem dL_commons_5 : decode cL_commons 5 = .ok (.invokevirtual 104, 3) := by decide +kernel
theorem dL_commons_8 : decode cL_commons 8 = .ok (.if_icmp .ge 149, 3) := by decide +kernel
theorem dL_commons_11 : decode cL_commons 11 = .ok (.iconst (-1), 1) := by decide +kernel
theorem dL_commons_12 : decode cL_commons 12 = .ok (.istore_n 2, 1) := by decide +kernel
theorem dL_commons_13 : decode cL_commons 13 = .ok (.sipush 999, 3) := by decide +kernel
theorem dL_commons_16 : decode cL_commons 16 = .ok (.istore_n 3, 1) := by decide +kernel
theorem dL_commons_17 : decode cL_commons 17 = .ok (.iconst 0, 1) := by decide +kernel
theorem dL_commons_18 : decode cL_commons 18 = .ok (.istore 4, 2) := by decide +kernel
theorem dL_commons_20 : decode cL_commons 20 = .ok (.iload 4, 2) := by decide +kernel
theorem dL_commons_22 : decode cL_commons 22 = .ok (.aload_n 0, 1) := by decide +kernel
theorem dL_commons_23 : decode cL_commons 23 = .ok (.iconst 0, 1) := by decide +kernel
theorem dL_commons_24 : decode cL_commons 24 = .ok (.invokevirtual 104, 3) := by decide +kernel
theorem dL_commons_27 : decode cL_commons 27 = .ok (.if_icmp .ge 68, 3) := by decide +kernel
theorem dL_commons_30 : decode cL_commons 30 = .ok (.aload_n 0, 1) := by decide +kernel
theorem dL_commons_31 : decode cL_commons 31 = .ok (.iload 4, 2) := by decide +kernel
theorem dL_commons_33 : decode cL_commons 33 = .ok (.iload_n 1, 1) := by decide +kernel
theorem dL_commons_34 : decode cL_commons 34 = .ok (.invokevirtual 218, 3) := by decide +kernel
theorem dL_commons_37 : decode cL_commons 37 = .ok (.istore 5, 2) := by decide +kernel
theorem dL_commons_39 : decode cL_commons 39 = .ok (.iload 5, 2) := by decide +kernel
theorem dL_commons_41 : decode cL_commons 41 = .ok (.ifCond .ge 6, 3) := by decide +kernel
theorem dL_commons_44 : decode cL_commons 44 = .ok (.goto 45, 3) := by decide +kernel
theorem dL_commons_47 : decode cL_commons 47 = .ok (.iload_n 2, 1) := by decide +kernel
theorem dL_commons_48 : decode cL_commons 48 = .ok (.aload_n 0, 1) := by decide +kernel
theorem dL_commons_49 : decode cL_commons 49 = .ok (.iload 4, 2) := by decide +kernel
theorem dL_commons_51 : decode cL_commons 51 = .ok (.iload 5, 2) := by decide +kernel
theorem dL_commons_53 : decode cL_commons 53 = .ok (.aload_n 0, 1) := by decide +kernel
theorem dL_commons_54 : decode cL_commons 54 = .ok (.iload 4, 2) := by decide +kernel
theorem dL_commons_56 : decode cL_commons 56 = .ok (.iload 5, 2) := by decide +kernel
theorem dL_commons_58 : decode cL_commons 58 = .ok (.invokestatic 167, 3) := by decide +kernel
theorem dL_commons_61 : decode cL_commons 61 = .ok (.invokestatic 178, 3) := by decide +kernel
theorem dL_commons_64 : decode cL_commons 64 = .ok (.invokestatic 144, 3) := by decide +kernel
theorem dL_commons_67 : decode cL_commons 67 = .ok (.istore_n 2, 1) := by decide +kernel
theorem dL_commons_68 : decode cL_commons 68 = .ok (.iload_n 3, 1) := by decide +kernel
theorem dL_commons_69 : decode cL_commons 69 = .ok (.aload_n 0, 1) := by decide +kernel
theorem dL_commons_70 : decode cL_commons 70 = .ok (.iload 4, 2) := by decide +kernel
theorem dL_commons_72 : decode cL_commons 72 = .ok (.iload 5, 2) := by decide +kernel
theorem dL_commons_74 : decode cL_commons 74 = .ok (.aload_n 0, 1) := by decide +kernel
theorem dL_commons_75 : decode cL_commons 75 = .ok (.iload 4, 2) := by decide +kernel
theorem dL_commons_77 : decode cL_commons 77 = .ok (.iload 5, 2) := by decide +kernel
theorem dL_commons_79 : decode cL_commons 79 = .ok (.invokestatic 167, 3) := by decide +kernel
theorem dL_commons_82 : decode cL_commons 82 = .ok (.invokestatic 182, 3) := by decide +kernel
theorem dL_commons_85 : decode cL_commons 85 = .ok (.invokestatic 30, 3) := by decide +kernel
theorem dL_commons_88 : decode cL_commons 88 = .ok (.istore_n 3, 1) := by decide +kernel
theorem dL_commons_89 : decode cL_commons 89 = .ok (.iinc 4 1, 3) := by decide +kernel
theorem dL_commons_92 : decode cL_commons 92 = .ok (.goto (-72), 3) := by decide +kernel
theorem dL_commons_95 : decode cL_commons 95 = .ok (.iload_n 2, 1) := by decide +kernel
theorem dL_commons_96 : decode cL_commons 96 = .ok (.ifCond .lt 12, 3) := by decide +kernel
theorem dL_commons_99 : decode cL_commons 99 = .ok (.iload_n 2, 1) := by decide +kernel
theorem dL_commons_100 : decode cL_commons 100 = .ok (.iload_n 3, 1) := by decide +kernel
theorem dL_commons_101 : decode cL_commons 101 = .ok (.if_icmp .gt 7, 3) := by decide +kernel
theorem dL_commons_104 : decode cL_commons 104 = .ok (.iconst 1, 1) := by decide +kernel
theorem dL_commons_105 : decode cL_commons 105 = .ok (.goto 4, 3) := by decide +kernel
theorem dL_commons_108 : decode cL_commons 108 = .ok (.iconst 0, 1) := by decide +kernel
theorem dL_commons_109 : decode cL_commons 109 = .ok (.istore 4, 2) := by decide +kernel
theorem dL_commons_111 : decode cL_commons 111 = .ok (.aload_n 0, 1) := by decide +kernel
theorem dL_commons_112 : decode cL_commons 112 = .ok (.iload_n 1, 1) := by decide +kernel
theorem dL_commons_113 : decode cL_commons 113 = .ok (.iconst 0, 1) := by decide +kernel
theorem dL_commons_114 : decode cL_commons 114 = .ok (.invokevirtual 239, 3) := by decide +kernel
theorem dL_commons_117 : decode cL_commons 117 = .ok (.iload 4, 2) := by decide +kernel
theorem dL_commons_119 : decode cL_commons 119 = .ok (.ifCond .eq 7, 3) := by decide +kernel
theorem dL_commons_122 : decode cL_commons 122 = .ok (.iload_n 2, 1) := by decide +kernel
theorem dL_commons_123 : decode cL_commons 123 = .ok (.goto 4, 3) := by decide +kernel
theorem dL_commons_126 : decode cL_commons 126 = .ok (.iconst (-1), 1) := by decide +kernel
theorem dL_commons_127 : decode cL_commons 127 = .ok (.if_icmp .ne 22, 3) := by decide +kernel
theorem dL_commons_130 : decode cL_commons 130 = .ok (.aload_n 0, 1) := by decide +kernel
theorem dL_commons_131 : decode cL_commons 131 = .ok (.iload_n 1, 1) := by decide +kernel
theorem dL_commons_132 : decode cL_commons 132 = .ok (.iconst 1, 1) := by decide +kernel
theorem dL_commons_133 : decode cL_commons 133 = .ok (.invokevirtual 239, 3) := by decide +kernel
theorem dL_commons_136 : decode cL_commons 136 = .ok (.iload 4, 2) := by decide +kernel
theorem dL_commons_138 : decode cL_commons 138 = .ok (.ifCond .eq 7, 3) := by decide +kernel
theorem dL_commons_141 : decode cL_commons 141 = .ok (.iload_n 3, 1) := by decide +kernel
theorem dL_commons_142 : decode cL_commons 142 = .ok (.goto 4, 3) := by decide +kernel
theorem dL_commons_145 : decode cL_commons 145 = .ok (.iconst (-1), 1) := by decide +kernel
theorem dL_commons_146 : decode cL_commons 146 = .ok (.if_icmp .eq 5, 3) := by decide +kernel
theorem dL_commons_149 : decode cL_commons 149 = .ok (.iconst 0, 1) := by decide +kernel
theorem dL_commons_150 : decode cL_commons 150 = .ok (.ireturn, 1) := by decide +kernel
theorem dL_commons_151 : decode cL_commons 151 = .ok (.iinc 1 1, 3) := by decide +kernel
theorem dL_commons_154 : decode cL_commons 154 = .ok (.goto (-152), 3) := by decide +kernel
theorem dL_commons_157 : decode cL_commons 157 = .ok (.iconst 0, 1) := by decide +kernel
theorem dL_commons_158 : decode cL_commons 158 = .ok (.istore_n 1, 1) := by decide +kernel
theorem dL_commons_159 : decode cL_commons 159 = .ok (.iload_n 1, 1) := by decide +kernel
theorem dL_commons_160 : decode cL_commons 160 = .ok (.aload_n 0, 1) := by decide +kernel
theorem dL_commons_161 : decode cL_commons 161 = .ok (.iconst 0, 1) := by decide +kernel
theorem dL_commons_162 : decode cL_commons 162 = .ok (.invokevirtual 104, 3) := by decide +kernel
theorem dL_commons_165 : decode cL_commons 165 = .ok (.if_icmp .ge 108, 3) := by decide +kernel
theorem dL_commons_168 : decode cL_commons 168 = .ok (.iconst 0, 1) := by decide +kernel
theorem dL_commons_169 : decode cL_commons 169 = .ok (.istore_n 2, 1) := by decide +kernel
theorem dL_commons_170 : decode cL_commons 170 = .ok (.iload_n 2, 1) := by decide +kernel
theorem dL_commons_171 : decode cL_commons 171 = .ok (.aload_n 0, 1) := by decide +kernel
theorem dL_commons_172 : decode cL_commons 172 = .ok (.iconst 0, 1) := by decide +kernel
theorem dL_commons_173 : decode cL_commons 173 = .ok (.invokevirtual 104, 3) := by decide +kernel
theorem dL_commons_176 : decode cL_commons 176 = .ok (.if_icmp .ge 91, 3) := by decide +kernel
theorem dL_commons_179 : decode cL_commons 179 = .ok (.iconst 0, 1) := by decide +kernel
theorem dL_commons_180 : decode cL_commons 180 = .ok (.istore_n 3, 1) := by decide +kernel
theorem dL_commons_181 : decode cL_commons 181 = .ok (.iconst 0, 1) := by decide +kernel
theorem dL_commons_182 : decode cL_commons 182 = .ok (.istore 4, 2) := by decide +kernel
theorem dL_commons_184 : decode cL_commons 184 = .ok (.iload 4, 2) := by decide +kernel
theorem dL_commons_186 : decode cL_commons 186 = .ok (.aload_n 0, 1) := by decide +kernel
theorem dL_commons_187 : decode cL_commons 187 = .ok (.iconst 1, 1) := by decide +kernel
theorem dL_commons_188 : decode cL_commons 188 = .ok (.invokevirtual 104, 3) := by decide +kernel
theorem dL_commons_191 : decode cL_commons 191 = .ok (.if_icmp .ge 58, 3) := by decide +kernel
theorem dL_commons_194 : decode cL_commons 194 = .ok (.iload_n 3, 1) := by decide +kernel
theorem dL_commons_195 : decode cL_commons 195 = .ok (.aload_n 0, 1) := by decide +kernel
theorem dL_commons_196 : decode cL_commons 196 = .ok (.iload_n 1, 1) := by decide +kernel
theorem dL_commons_197 : decode cL_commons 197 = .ok (.iload 4, 2) := by decide +kernel
theorem dL_commons_199 : decode cL_commons 199 = .ok (.iconst 0, 1) := by decide +kernel
theorem dL_commons_200 : decode cL_commons 200 = .ok (.invokevirtual 195, 3) := by decide +kernel
theorem dL_commons_203 : decode cL_commons 203 = .ok (.aload_n 0, 1) := by decide +kernel
theorem dL_commons_204 : decode cL_commons 204 = .ok (.iload_n 2, 1) := by decide +kernel
theorem dL_commons_205 : decode cL_commons 205 = .ok (.iload 4, 2) := by decide +kernel
theorem dL_commons_207 : decode cL_commons 207 = .ok (.iconst 0, 1) := by decide +kernel
theorem dL_commons_208 : decode cL_commons 208 = .ok (.invokevirtual 195, 3) := by decide +kernel
theorem dL_commons_211 : decode cL_commons 211 = .ok (.invokestatic 144, 3) := by decide +kernel
theorem dL_commons_214 : decode cL_commons 214 = .ok (.aload_n 0, 1) := by decide +kernel
theorem dL_commons_215 : decode cL_commons 215 = .ok (.iload_n 1, 1) := by decide +kernel
theorem dL_commons_216 : decode cL_commons 216 = .ok (.iload 4, 2) := by decide +kernel
theorem dL_commons_218 : decode cL_commons 218 = .ok (.iconst 1, 1) := by decide +kernel
theorem dL_commons_219 : decode cL_commons 219 = .ok (.invokevirtual 195, 3) := by decide +kernel
theorem dL_commons_222 : decode cL_commons 222 = .ok (.aload_n 0, 1) := by decide +kernel
theorem dL_commons_223 : decode cL_commons 223 = .ok (.iload_n 2, 1) := by decide +kernel
theorem dL_commons_224 : decode cL_commons 224 = .ok (.iload 4, 2) := by decide +kernel
theorem dL_commons_226 : decode cL_commons 226 = .ok (.iconst 1, 1) := by decide +kernel
theorem dL_commons_227 : decode cL_commons 227 = .ok (.invokevirtual 195, 3) := by decide +kernel
theorem dL_commons_230 : decode cL_commons 230 = .ok (.invokestatic 30, 3) := by decide +kernel
theorem dL_commons_233 : decode cL_commons 233 = .ok (.if_icmp .gt 7, 3) := by decide +kernel
theorem dL_commons_236 : decode cL_commons 236 = .ok (.iconst 1, 1) := by decide +kernel
theorem dL_commons_237 : decode cL_commons 237 = .ok (.goto 4, 3) := by decide +kernel
theorem dL_commons_240 : decode cL_commons 240 = .ok (.iconst 0, 1) := by decide +kernel
theorem dL_commons_241 : decode cL_commons 241 = .ok (.iadd, 1) := by decide +kernel
theorem dL_commons_242 : decode cL_commons 242 = .ok (.istore_n 3, 1) := by decide +kernel
theorem dL_commons_243 : decode cL_commons 243 = .ok (.iinc 4 1, 3) := by decide +kernel
theorem dL_commons_246 : decode cL_commons 246 = .ok (.goto (-62), 3) := by decide +kernel
theorem dL_commons_249 : decode cL_commons 249 = .ok (.aload_n 0, 1) := by decide +kernel
theorem dL_commons_250 : decode cL_commons 250 = .ok (.iload_n 1, 1) := by decide +kernel
theorem dL_commons_251 : decode cL_commons 251 = .ok (.iload_n 2, 1) := by decide +kernel
theorem dL_commons_252 : decode cL_commons 252 = .ok (.invokevirtual 242, 3) := by decide +kernel
theorem dL_commons_255 : decode cL_commons 255 = .ok (.iload_n 3, 1) := by decide +kernel
theorem dL_commons_256 : decode cL_commons 256 = .ok (.if_icmp .eq 5, 3) := by decide +kernel
theorem dL_commons_259 : decode cL_commons 259 = .ok (.iconst 0, 1) := by decide +kernel
theorem dL_commons_260 : decode cL_commons 260 = .ok (.ireturn, 1) := by decide +kernel
theorem dL_commons_261 : decode cL_commons 261 = .ok (.iinc 2 1, 3) := by decide +kernel
theorem dL_commons_264 : decode cL_commons 264 = .ok (.goto (-94), 3) := by decide +kernel
theorem dL_commons_267 : decode cL_commons 267 = .ok (.iinc 1 1, 3) := by decide +kernel
theorem dL_commons_270 : decode cL_commons 270 = .ok (.goto (-111), 3) := by decide +kernel
theorem dL_commons_273 : decode cL_commons 273 = .ok (.iconst 1, 1) := by decide +kernel
theorem dL_commons_274 : decode cL_commons 274 = .ok (.ireturn, 1) := by decide +kernel
theorem dL_holds_0 : decode cL_holds 0 = .ok (.iconst 0, 1) := by decide +kernel
theorem dL_holds_1 : decode cL_holds 1 = .ok (.istore_n 1, 1) := by decide +kernel
theorem dL_holds_2 : decode cL_holds 2 = .ok (.iload_n 1, 1) := by decide +kernel
theorem dL_holds_3 : decode cL_holds 3 = .ok (.aload_n 0, 1) := by decide +kernel
theorem dL_holds_4 : decode cL_holds 4 = .ok (.iconst 0, 1) := by decide +kernel
theorem dL_holds_5 : decode cL_holds 5 = .ok (.invokevirtual 104, 3) := by decide +kernel
theorem dL_holds_8 : decode cL_holds 8 = .ok (.if_icmp .ge 47, 3) := by decide +kernel
theorem dL_holds_11 : decode cL_holds 11 = .ok (.iconst 0, 1) := by decide +kernel
theorem dL_holds_12 : decode cL_holds 12 = .ok (.istore_n 2, 1) := by decide +kernel
theorem dL_holds_13 : decode cL_holds 13 = .ok (.iload_n 2, 1) := by decide +kernel
theorem dL_holds_14 : decode cL_holds 14 = .ok (.aload_n 0, 1) := by decide +kernel
theorem dL_holds_15 : decode cL_holds 15 = .ok (.iconst 1, 1) := by decide +kernel
theorem dL_holds_16 : decode cL_holds 16 = .ok (.invokevirtual 104, 3) := by decide +kernel
theorem dL_holds_19 : decode cL_holds 19 = .ok (.if_icmp .ge 20, 3) := by decide +kernel
theorem dL_holds_22 : decode cL_holds 22 = .ok (.aload_n 0, 1) := by decide +kernel
theorem dL_holds_23 : decode cL_holds 23 = .ok (.iload_n 1, 1) := by decide +kernel
theorem dL_holds_24 : decode cL_holds 24 = .ok (.iload_n 2, 1) := by decide +kernel
theorem dL_holds_25 : decode cL_holds 25 = .ok (.invokestatic 245, 3) := by decide +kernel
theorem dL_holds_28 : decode cL_holds 28 = .ok (.ifCond .ne 5, 3) := by decide +kernel
theorem dL_holds_31 : decode cL_holds 31 = .ok (.iconst 0, 1) := by decide +kernel
theorem dL_holds_32 : decode cL_holds 32 = .ok (.ireturn, 1) := by decide +kernel
theorem dL_holds_33 : decode cL_holds 33 = .ok (.iinc 2 1, 3) := by decide +kernel
theorem dL_holds_36 : decode cL_holds 36 = .ok (.goto (-23), 3) := by decide +kernel
theorem dL_holds_39 : decode cL_holds 39 = .ok (.aload_n 0, 1) := by decide +kernel
theorem dL_holds_40 : decode cL_holds 40 = .ok (.iload_n 1, 1) := by decide +kernel
theorem dL_holds_41 : decode cL_holds 41 = .ok (.invokestatic 248, 3) := by decide +kernel
theorem dL_holds_44 : decode cL_holds 44 = .ok (.ifCond .ne 5, 3) := by decide +kernel
theorem dL_holds_47 : decode cL_holds 47 = .ok (.iconst 0, 1) := by decide +kernel
theorem dL_holds_48 : decode cL_holds 48 = .ok (.ireturn, 1) := by decide +kernel
theorem dL_holds_49 : decode cL_holds 49 = .ok (.iinc 1 1, 3) := by decide +kernel
theorem dL_holds_52 : decode cL_holds 52 = .ok (.goto (-50), 3) := by decide +kernel
theorem dL_holds_55 : decode cL_holds 55 = .ok (.aload_n 0, 1) := by decide +kernel
theorem dL_holds_56 : decode cL_holds 56 = .ok (.invokestatic 252, 3) := by decide +kernel
theorem dL_holds_59 : decode cL_holds 59 = .ok (.ireturn, 1) := by decide +kernel
theorem dL_law_0 : decode cL_law 0 = .ok (.new 25, 3) := by decide +kernel
theorem dL_law_3 : decode cL_law 3 = .ok (.dup, 1) := by decide +kernel
theorem dL_law_4 : decode cL_law 4 = .ok (.invokespecial 256, 3) := by decide +kernel
theorem dL_law_7 : decode cL_law 7 = .ok (.astore_n 1, 1) := by decide +kernel
theorem dL_law_8 : decode cL_law 8 = .ok (.aload_n 1, 1) := by decide +kernel
theorem dL_law_9 : decode cL_law 9 = .ok (.aload_n 0, 1) := by decide +kernel
theorem dL_law_10 : decode cL_law 10 = .ok (.invokestatic 257, 3) := by decide +kernel
theorem dL_law_13 : decode cL_law 13 = .ok (.ifCond .eq 10, 3) := by decide +kernel
theorem dL_law_16 : decode cL_law 16 = .ok (.aload_n 1, 1) := by decide +kernel
theorem dL_law_17 : decode cL_law 17 = .ok (.invokestatic 260, 3) := by decide +kernel
theorem dL_law_20 : decode cL_law 20 = .ok (.ifCond .ne 5, 3) := by decide +kernel
theorem dL_law_23 : decode cL_law 23 = .ok (.iconst 0, 1) := by decide +kernel
theorem dL_law_24 : decode cL_law 24 = .ok (.ireturn, 1) := by decide +kernel
theorem dL_law_25 : decode cL_law 25 = .ok (.bipush 80, 2) := by decide +kernel
theorem dL_law_27 : decode cL_law 27 = .ok (.istore_n 2, 1) := by decide +kernel
theorem dL_law_28 : decode cL_law 28 = .ok (.iload_n 2, 1) := by decide +kernel
theorem dL_law_29 : decode cL_law 29 = .ok (.sipush 164, 3) := by decide +kernel
theorem dL_law_32 : decode cL_law 32 = .ok (.if_icmp .ge 25, 3) := by decide +kernel
theorem dL_law_35 : decode cL_law 35 = .ok (.aload_n 1, 1) := by decide +kernel
theorem dL_law_36 : decode cL_law 36 = .ok (.aload_n 0, 1) := by decide +kernel
theorem dL_law_37 : decode cL_law 37 = .ok (.iload_n 2, 1) := by decide +kernel
theorem dL_law_38 : decode cL_law 38 = .ok (.invokestatic 263, 3) := by decide +kernel
theorem dL_law_41 : decode cL_law 41 = .ok (.istore_n 3, 1) := by decide +kernel
theorem dL_law_42 : decode cL_law 42 = .ok (.aload_n 1, 1) := by decide +kernel
theorem dL_law_43 : decode cL_law 43 = .ok (.invokestatic 260, 3) := by decide +kernel
theorem dL_law_46 : decode cL_law 46 = .ok (.ifCond .ne 5, 3) := by decide +kernel
theorem dL_law_49 : decode cL_law 49 = .ok (.iconst 0, 1) := by decide +kernel
theorem dL_law_50 : decode cL_law 50 = .ok (.ireturn, 1) := by decide +kernel
theorem dL_law_51 : decode cL_law 51 = .ok (.iinc 2 6, 3) := by decide +kernel
theorem dL_law_54 : decode cL_law 54 = .ok (.goto (-26), 3) := by decide +kernel
theorem dL_law_57 : decode cL_law 57 = .ok (.iconst 1, 1) := by decide +kernel
theorem dL_law_58 : decode cL_law 58 = .ok (.ireturn, 1) := by decide +kernel
