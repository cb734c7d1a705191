theorem dL_act_307 : decode cL_act 307 = .ok (.goto 4, 3) := by decide +kernel
theorem dL_act_310 : decode cL_act 310 = .ok (.iconst 0, 1) := by decide +kernel
theorem dL_act_311 : decode cL_act 311 = .ok (.ireturn, 1) := by decide +kernel
theorem dL_act_312 : decode cL_act 312 = .ok (.iload_n 2, 1) := by decide +kernel
theorem dL_act_313 : decode cL_act 313 = .ok (.iload 4, 2) := by decide +kernel
theorem dL_act_315 : decode cL_act 315 = .ok (.invokestatic 22, 3) := by decide +kernel
theorem dL_act_318 : decode cL_act 318 = .ok (.istore 5, 2) := by decide +kernel
theorem dL_act_320 : decode cL_act 320 = .ok (.aload_n 0, 1) := by decide +kernel
theorem dL_act_321 : decode cL_act 321 = .ok (.iload 5, 2) := by decide +kernel
theorem dL_act_323 : decode cL_act 323 = .ok (.iconst 0, 1) := by decide +kernel
theorem dL_act_324 : decode cL_act 324 = .ok (.invokevirtual 69, 3) := by decide +kernel
theorem dL_act_327 : decode cL_act 327 = .ok (.istore 6, 2) := by decide +kernel
theorem dL_act_329 : decode cL_act 329 = .ok (.aload_n 0, 1) := by decide +kernel
theorem dL_act_330 : decode cL_act 330 = .ok (.iload 5, 2) := by decide +kernel
theorem dL_act_332 : decode cL_act 332 = .ok (.iconst 1, 1) := by decide +kernel
theorem dL_act_333 : decode cL_act 333 = .ok (.invokevirtual 69, 3) := by decide +kernel
theorem dL_act_336 : decode cL_act 336 = .ok (.istore 7, 2) := by decide +kernel
theorem dL_act_338 : decode cL_act 338 = .ok (.iload_n 3, 1) := by decide +kernel
theorem dL_act_339 : decode cL_act 339 = .ok (.bipush 41, 2) := by decide +kernel
theorem dL_act_341 : decode cL_act 341 = .ok (.invokestatic 22, 3) := by decide +kernel
theorem dL_act_344 : decode cL_act 344 = .ok (.bipush 20, 2) := by decide +kernel
theorem dL_act_346 : decode cL_act 346 = .ok (.isub, 1) := by decide +kernel
theorem dL_act_347 : decode cL_act 347 = .ok (.istore 8, 2) := by decide +kernel
theorem dL_act_349 : decode cL_act 349 = .ok (.aload_n 0, 1) := by decide +kernel
theorem dL_act_350 : decode cL_act 350 = .ok (.iload 5, 2) := by decide +kernel
theorem dL_act_352 : decode cL_act 352 = .ok (.iload 8, 2) := by decide +kernel
theorem dL_act_354 : decode cL_act 354 = .ok (.invokevirtual 81, 3) := by decide +kernel
theorem dL_act_357 : decode cL_act 357 = .ok (.istore 9, 2) := by decide +kernel
theorem dL_act_359 : decode cL_act 359 = .ok (.iload 6, 2) := by decide +kernel
theorem dL_act_361 : decode cL_act 361 = .ok (.iload 8, 2) := by decide +kernel
theorem dL_act_363 : decode cL_act 363 = .ok (.iadd, 1) := by decide +kernel
theorem dL_act_364 : decode cL_act 364 = .ok (.ifCond .ge 30, 3) := by decide +kernel
theorem dL_act_367 : decode cL_act 367 = .ok (.iload 9, 2) := by decide +kernel
theorem dL_act_369 : decode cL_act 369 = .ok (.bipush (-2), 2) := by decide +kernel
theorem dL_act_371 : decode cL_act 371 = .ok (.if_icmp .ne 19, 3) := by decide +kernel
theorem dL_act_374 : decode cL_act 374 = .ok (.aload_n 0, 1) := by decide +kernel
theorem dL_act_375 : decode cL_act 375 = .ok (.iload 5, 2) := by decide +kernel
theorem dL_act_377 : decode cL_act 377 = .ok (.iconst 0, 1) := by decide +kernel
theorem dL_act_378 : decode cL_act 378 = .ok (.invokevirtual 69, 3) := by decide +kernel
theorem dL_act_381 : decode cL_act 381 = .ok (.iload 6, 2) := by decide +kernel
theorem dL_act_383 : decode cL_act 383 = .ok (.if_icmp .ne 7, 3) := by decide +kernel
theorem dL_act_386 : decode cL_act 386 = .ok (.iconst 1, 1) := by decide +kernel
theorem dL_act_387 : decode cL_act 387 = .ok (.goto 75, 3) := by decide +kernel
theorem dL_act_390 : decode cL_act 390 = .ok (.iconst 0, 1) := by decide +kernel
theorem dL_act_391 : decode cL_act 391 = .ok (.goto 71, 3) := by decide +kernel
theorem dL_act_394 : decode cL_act 394 = .ok (.aload_n 0, 1) := by decide +kernel
theorem dL_act_395 : decode cL_act 395 = .ok (.iload 9, 2) := by decide +kernel
theorem dL_act_397 : decode cL_act 397 = .ok (.iconst 0, 1) := by decide +kernel
theorem dL_act_398 : decode cL_act 398 = .ok (.invokevirtual 69, 3) := by decide +kernel
theorem dL_act_401 : decode cL_act 401 = .ok (.iload 6, 2) := by decide +kernel
theorem dL_act_403 : decode cL_act 403 = .ok (.iload 8, 2) := by decide +kernel
theorem dL_act_405 : decode cL_act 405 = .ok (.iadd, 1) := by decide +kernel
theorem dL_act_406 : decode cL_act 406 = .ok (.if_icmp .ne 55, 3) := by decide +kernel
theorem dL_act_409 : decode cL_act 409 = .ok (.aload_n 0, 1) := by decide +kernel
theorem dL_act_410 : decode cL_act 410 = .ok (.iload 9, 2) := by decide +kernel
theorem dL_act_412 : decode cL_act 412 = .ok (.iconst 1, 1) := by decide +kernel
theorem dL_act_413 : decode cL_act 413 = .ok (.invokevirtual 69, 3) := by decide +kernel
theorem dL_act_416 : decode cL_act 416 = .ok (.iload 7, 2) := by decide +kernel
theorem dL_act_418 : decode cL_act 418 = .ok (.if_icmp .ne 43, 3) := by decide +kernel
theorem dL_act_421 : decode cL_act 421 = .ok (.iload 9, 2) := by decide +kernel
theorem dL_act_423 : decode cL_act 423 = .ok (.iload 4, 2) := by decide +kernel
theorem dL_act_425 : decode cL_act 425 = .ok (.iconst 1, 1) := by decide +kernel
theorem dL_act_426 : decode cL_act 426 = .ok (.isub, 1) := by decide +kernel
theorem dL_act_427 : decode cL_act 427 = .ok (.if_icmp .eq 20, 3) := by decide +kernel
theorem dL_act_430 : decode cL_act 430 = .ok (.aload_n 0, 1) := by decide +kernel
theorem dL_act_431 : decode cL_act 431 = .ok (.iload 9, 2) := by decide +kernel
theorem dL_act_433 : decode cL_act 433 = .ok (.iconst 1, 1) := by decide +kernel
theorem dL_act_434 : decode cL_act 434 = .ok (.iadd, 1) := by decide +kernel
theorem dL_act_435 : decode cL_act 435 = .ok (.iconst 0, 1) := by decide +kernel
theorem dL_act_436 : decode cL_act 436 = .ok (.invokevirtual 69, 3) := by decide +kernel
theorem dL_act_439 : decode cL_act 439 = .ok (.iload 6, 2) := by decide +kernel
theorem dL_act_441 : decode cL_act 441 = .ok (.iload 8, 2) := by decide +kernel
theorem dL_act_443 : decode cL_act 443 = .ok (.iadd, 1) := by decide +kernel
theorem dL_act_444 : decode cL_act 444 = .ok (.if_icmp .le 17, 3) := by decide +kernel
theorem dL_act_447 : decode cL_act 447 = .ok (.aload_n 0, 1) := by decide +kernel
theorem dL_act_448 : decode cL_act 448 = .ok (.iconst 2, 1) := by decide +kernel
theorem dL_act_449 : decode cL_act 449 = .ok (.invokevirtual 63, 3) := by decide +kernel
theorem dL_act_452 : decode cL_act 452 = .ok (.iload 4, 2) := by decide +kernel
theorem dL_act_454 : decode cL_act 454 = .ok (.if_icmp .ne 7, 3) := by decide +kernel
theorem dL_act_457 : decode cL_act 457 = .ok (.iconst 1, 1) := by decide +kernel
theorem dL_act_458 : decode cL_act 458 = .ok (.goto 4, 3) := by decide +kernel
theorem dL_act_461 : decode cL_act 461 = .ok (.iconst 0, 1) := by decide +kernel
theorem dL_act_462 : decode cL_act 462 = .ok (.ireturn, 1) := by decide +kernel
theorem dL_ordered_0 : decode cL_ordered 0 = .ok (.aload_n 0, 1) := by decide +kernel
theorem dL_ordered_1 : decode cL_ordered 1 = .ok (.iconst 0, 1) := by decide +kernel
theorem dL_ordered_2 : decode cL_ordered 2 = .ok (.invokevirtual 63, 3) := by decide +kernel
theorem dL_ordered_5 : decode cL_ordered 5 = .ok (.istore_n 1, 1) := by decide +kernel
theorem dL_ordered_6 : decode cL_ordered 6 = .ok (.bipush (-6), 2) := by decide +kernel
theorem dL_ordered_8 : decode cL_ordered 8 = .ok (.istore_n 2, 1) := by decide +kernel
theorem dL_ordered_9 : decode cL_ordered 9 = .ok (.aload_n 0, 1) := by decide +kernel
theorem dL_ordered_10 : decode cL_ordered 10 = .ok (.iconst 2, 1) := by decide +kernel
theorem dL_ordered_11 : decode cL_ordered 11 = .ok (.invokevirtual 63, 3) := by decide +kernel
theorem dL_ordered_14 : decode cL_ordered 14 = .ok (.iconst 1, 1) := by decide +kernel
theorem dL_ordered_15 : decode cL_ordered 15 = .ok (.isub, 1) := by decide +kernel
theorem dL_ordered_16 : decode cL_ordered 16 = .ok (.istore_n 3, 1) := by decide +kernel
theorem dL_ordered_17 : decode cL_ordered 17 = .ok (.iload_n 3, 1) := by decide +kernel
theorem dL_ordered_18 : decode cL_ordered 18 = .ok (.ifCond .lt 48, 3) := by decide +kernel
theorem dL_ordered_21 : decode cL_ordered 21 = .ok (.iload_n 3, 1) := by decide +kernel
theorem dL_ordered_22 : decode cL_ordered 22 = .ok (.ifCond .le 22, 3) := by decide +kernel
theorem dL_ordered_25 : decode cL_ordered 25 = .ok (.aload_n 0, 1) := by decide +kernel
theorem dL_ordered_26 : decode cL_ordered 26 = .ok (.iload_n 3, 1) := by decide +kernel
theorem dL_ordered_27 : decode cL_ordered 27 = .ok (.iconst 0, 1) := by decide +kernel
theorem dL_ordered_28 : decode cL_ordered 28 = .ok (.invokevirtual 69, 3) := by decide +kernel
theorem dL_ordered_31 : decode cL_ordered 31 = .ok (.aload_n 0, 1) := by decide +kernel
theorem dL_ordered_32 : decode cL_ordered 32 = .ok (.iload_n 3, 1) := by decide +kernel
theorem dL_ordered_33 : decode cL_ordered 33 = .ok (.iconst 1, 1) := by decide +kernel
theorem dL_ordered_34 : decode cL_ordered 34 = .ok (.isub, 1) := by decide +kernel
theorem dL_ordered_35 : decode cL_ordered 35 = .ok (.iconst 0, 1) := by decide +kernel
theorem dL_ordered_36 : decode cL_ordered 36 = .ok (.invokevirtual 69, 3) := by decide +kernel
theorem dL_ordered_39 : decode cL_ordered 39 = .ok (.if_icmp .ge 5, 3) := by decide +kernel
theorem dL_ordered_42 : decode cL_ordered 42 = .ok (.iconst 0, 1) := by decide +kernel
theorem dL_ordered_43 : decode cL_ordered 43 = .ok (.ireturn, 1) := by decide +kernel
theorem dL_ordered_44 : decode cL_ordered 44 = .ok (.aload_n 0, 1) := by decide +kernel
theorem dL_ordered_45 : decode cL_ordered 45 = .ok (.iload_n 3, 1) := by decide +kernel
theorem dL_ordered_46 : decode cL_ordered 46 = .ok (.iconst 0, 1) := by decide +kernel
theorem dL_ordered_47 : decode cL_ordered 47 = .ok (.invokevirtual 69, 3) := by decide +kernel
theorem dL_ordered_50 : decode cL_ordered 50 = .ok (.iload_n 1, 1) := by decide +kernel
theorem dL_ordered_51 : decode cL_ordered 51 = .ok (.if_icmp .lt 7, 3) := by decide +kernel
theorem dL_ordered_54 : decode cL_ordered 54 = .ok (.iload_n 3, 1) := by decide +kernel
theorem dL_ordered_55 : decode cL_ordered 55 = .ok (.goto 4, 3) := by decide +kernel
theorem dL_ordered_58 : decode cL_ordered 58 = .ok (.iload_n 2, 1) := by decide +kernel
theorem dL_ordered_59 : decode cL_ordered 59 = .ok (.istore_n 2, 1) := by decide +kernel
theorem dL_ordered_60 : decode cL_ordered 60 = .ok (.iinc 3 (-1), 3) := by decide +kernel
theorem dL_ordered_63 : decode cL_ordered 63 = .ok (.goto (-46), 3) := by decide +kernel
theorem dL_ordered_66 : decode cL_ordered 66 = .ok (.aload_n 0, 1) := by decide +kernel
theorem dL_ordered_67 : decode cL_ordered 67 = .ok (.bipush 8, 2) := by decide +kernel
theorem dL_ordered_69 : decode cL_ordered 69 = .ok (.invokevirtual 63, 3) := by decide +kernel
theorem dL_ordered_72 : decode cL_ordered 72 = .ok (.iload_n 2, 1) := by decide +kernel
theorem dL_ordered_73 : decode cL_ordered 73 = .ok (.if_icmp .ne 7, 3) := by decide +kernel
theorem dL_ordered_76 : decode cL_ordered 76 = .ok (.iconst 1, 1) := by decide +kernel
theorem dL_ordered_77 : decode cL_ordered 77 = .ok (.goto 4, 3) := by decide +kernel
theorem dL_ordered_80 : decode cL_ordered 80 = .ok (.iconst 0, 1) := by decide +kernel
theorem dL_ordered_81 : decode cL_ordered 81 = .ok (.ireturn, 1) := by decide +kernel
theorem dL_ticks_0 : decode cL_ticks 0 = .ok (.aload_n 0, 1) := by decide +kernel
theorem dL_ticks_1 : decode cL_ticks 1 = .ok (.iconst 1, 1) := by decide +kernel
theorem dL_ticks_2 : decode cL_ticks 2 = .ok (.invokevirtual 63, 3) := by decide +kernel
theorem dL_ticks_5 : decode cL_ticks 5 = .ok (.istore_n 2, 1) := by decide +kernel
theorem dL_ticks_6 : decode cL_ticks 6 = .ok (.bipush 12, 2) := by decide +kernel
theorem dL_ticks_8 : decode cL_ticks 8 = .ok (.newarray .int, 2) := by decide +kernel
theorem dL_ticks_10 : decode cL_ticks 10 = .ok (.astore_n 3, 1) := by decide +kernel
theorem dL_ticks_11 : decode cL_ticks 11 = .ok (.iconst 3, 1) := by decide +kernel
theorem dL_ticks_12 : decode cL_ticks 12 = .ok (.newarray .int, 2) := by decide +kernel
theorem dL_ticks_14 : decode cL_ticks 14 = .ok (.astore 4, 2) := by decide +kernel
theorem dL_ticks_16 : decode cL_ticks 16 = .ok (.iconst 3, 1) := by decide +kernel
theorem dL_ticks_17 : decode cL_ticks 17 = .ok (.newarray .int, 2) := by decide +kernel
theorem dL_ticks_19 : decode cL_ticks 19 = .ok (.astore 5, 2) := by decide +kernel
theorem dL_ticks_21 : decode cL_ticks 21 = .ok (.iconst 0, 1) := by decide +kernel
theorem dL_ticks_22 : decode cL_ticks 22 = .ok (.istore 6, 2) := by decide +kernel
theorem dL_ticks_24 : decode cL_ticks 24 = .ok (.iload 6, 2) := by decide +kernel
theorem dL_ticks_26 : decode cL_ticks 26 = .ok (.iload_n 1, 1) := by decide +kernel
theorem dL_ticks_27 : decode cL_ticks 27 = .ok (.if_icmp .ge 722, 3) := by decide +kernel
theorem dL_ticks_30 : decode cL_ticks 30 = .ok (.aload_n 0, 1) := by decide +kernel
theorem dL_ticks_31 : decode cL_ticks 31 = .ok (.iconst 0, 1) := by decide +kernel
theorem dL_ticks_32 : decode cL_ticks 32 = .ok (.invokevirtual 63, 3) := by decide +kernel
theorem dL_ticks_35 : decode cL_ticks 35 = .ok (.istore 7, 2) := by decide +kernel
theorem dL_ticks_37 : decode cL_ticks 37 = .ok (.aload_n 0, 1) := by decide +kernel
theorem dL_ticks_38 : decode cL_ticks 38 = .ok (.bipush 7, 2) := by decide +kernel
theorem dL_ticks_40 : decode cL_ticks 40 = .ok (.invokevirtual 63, 3) := by decide +kernel
theorem dL_ticks_43 : decode cL_ticks 43 = .ok (.istore 8, 2) := by decide +kernel
theorem dL_ticks_45 : decode cL_ticks 45 = .ok (.aload_n 0, 1) := by decide +kernel
theorem dL_ticks_46 : decode cL_ticks 46 = .ok (.iconst 5, 1) := by decide +kernel
theorem dL_ticks_47 : decode cL_ticks 47 = .ok (.invokevirtual 63, 3) := by decide +kernel
theorem dL_ticks_50 : decode cL_ticks 50 = .ok (.istore 9, 2) := by decide +kernel
theorem dL_ticks_52 : decode cL_ticks 52 = .ok (.aload_n 0, 1) := by decide +kernel
theorem dL_ticks_53 : decode cL_ticks 53 = .ok (.iconst 4, 1) := by decide +kernel
theorem dL_ticks_54 : decode cL_ticks 54 = .ok (.invokevirtual 63, 3) := by decide +kernel
theorem dL_ticks_57 : decode cL_ticks 57 = .ok (.istore 10, 2) := by decide +kernel
theorem dL_ticks_59 : decode cL_ticks 59 = .ok (.iconst 0, 1) := by decide +kernel
theorem dL_ticks_60 : decode cL_ticks 60 = .ok (.istore 11, 2) := by decide +kernel
theorem dL_ticks_62 : decode cL_ticks 62 = .ok (.iload 11, 2) := by decide +kernel
theorem dL_ticks_64 : decode cL_ticks 64 = .ok (.iload_n 2, 1) := by decide +kernel
theorem dL_ticks_65 : decode cL_ticks 65 = .ok (.if_icmp .ge 21, 3) := by decide +kernel
theorem dL_ticks_68 : decode cL_ticks 68 = .ok (.aload_n 3, 1) := by decide +kernel
theorem dL_ticks_69 : decode cL_ticks 69 = .ok (.iload 11, 2) := by decide +kernel
theorem dL_ticks_71 : decode cL_ticks 71 = .ok (.aload_n 0, 1) := by decide +kernel
theorem dL_ticks_72 : decode cL_ticks 72 = .ok (.iload 11, 2) := by decide +kernel
theorem dL_ticks_74 : decode cL_ticks 74 = .ok (.bipush 7, 2) := by decide +kernel
theorem dL_ticks_76 : decode cL_ticks 76 = .ok (.invokevirtual 75, 3) := by decide +kernel
theorem dL_ticks_79 : decode cL_ticks 79 = .ok (.iastore, 1) := by decide +kernel
theorem dL_ticks_80 : decode cL_ticks 80 = .ok (.iinc 11 1, 3) := by decide +kernel
theorem dL_ticks_83 : decode cL_ticks 83 = .ok (.goto (-21), 3) := by decide +kernel
theorem dL_ticks_86 : decode cL_ticks 86 = .ok (.iconst 0, 1) := by decide +kernel
theorem dL_ticks_87 : decode cL_ticks 87 = .ok (.istore 11, 2) := by decide +kernel
theorem dL_ticks_89 : decode cL_ticks 89 = .ok (.iload 11, 2) := by decide +kernel
theorem dL_ticks_91 : decode cL_ticks 91 = .ok (.iconst 3, 1) := by decide +kernel
theorem dL_ticks_92 : decode cL_ticks 92 = .ok (.if_icmp .ge 33, 3) := by decide +kernel
theorem dL_ticks_95 : decode cL_ticks 95 = .ok (.aload 4, 2) := by decide +kernel
theorem dL_ticks_97 : decode cL_ticks 97 = .ok (.iload 11, 2) := by decide +kernel
theorem dL_ticks_99 : decode cL_ticks 99 = .ok (.aload_n 0, 1) := by decide +kernel
theorem dL_ticks_100 : decode cL_ticks 100 = .ok (.iload 11, 2) := by decide +kernel
theorem dL_ticks_102 : decode cL_ticks 102 = .ok (.iconst 2, 1) := by decide +kernel
theorem dL_ticks_103 : decode cL_ticks 103 = .ok (.invokevirtual 84, 3) := by decide +kernel
theorem dL_ticks_106 : decode cL_ticks 106 = .ok (.iastore, 1) := by decide +kernel
theorem dL_ticks_107 : decode cL_ticks 107 = .ok (.aload 5, 2) := by decide +kernel
theorem dL_ticks_109 : decode cL_ticks 109 = .ok (.iload 11, 2) := by decide +kernel
theorem dL_ticks_111 : decode cL_ticks 111 = .ok (.aload_n 0, 1) := by decide +kernel
theorem dL_ticks_112 : decode cL_ticks 112 = .ok (.iload 11, 2) := by decide +kernel
theorem dL_ticks_114 : decode cL_ticks 114 = .ok (.iconst 4, 1) := by decide +kernel
theorem dL_ticks_115 : decode cL_ticks 115 = .ok (.invokevirtual 84, 3) := by decide +kernel
theorem dL_ticks_118 : decode cL_ticks 118 = .ok (.iastore, 1) := by decide +kernel
theorem dL_ticks_119 : decode cL_ticks 119 = .ok (.iinc 11 1, 3) := by decide +kernel
theorem dL_ticks_122 : decode cL_ticks 122 = .ok (.goto (-33), 3) := by decide +kernel
theorem dL_ticks_125 : decode cL_ticks 125 = .ok (.aload_n 0, 1) := by decide +kernel
theorem dL_ticks_126 : decode cL_ticks 126 = .ok (.iconst 1, 1) := by decide +kernel
theorem dL_ticks_127 : decode cL_ticks 127 = .ok (.invokevirtual 87, 3) := by decide +kernel
theorem dL_ticks_130 : decode cL_ticks 130 = .ok (.iload 7, 2) := by decide +kernel
theorem dL_ticks_132 : decode cL_ticks 132 = .ok (.iconst 1, 1) := by decide +kernel
theorem dL_ticks_133 : decode cL_ticks 133 = .ok (.iadd, 1) := by decide +kernel
theorem dL_ticks_134 : decode cL_ticks 134 = .ok (.if_icmp .ne 14, 3) := by decide +kernel
theorem dL_ticks_137 : decode cL_ticks 137 = .ok (.aload_n 0, 1) := by decide +kernel
theorem dL_ticks_138 : decode cL_ticks 138 = .ok (.iload 9, 2) := by decide +kernel
theorem dL_ticks_140 : decode cL_ticks 140 = .ok (.iload 10, 2) := by decide +kernel
theorem dL_ticks_142 : decode cL_ticks 142 = .ok (.invokestatic 90, 3) := by decide +kernel
theorem dL_ticks_145 : decode cL_ticks 145 = .ok (.ifCond .ne 5, 3) := by decide +kernel
theorem dL_ticks_148 : decode cL_ticks 148 = .ok (.iconst 0, 1) := by decide +kernel
theorem dL_ticks_149 : decode cL_ticks 149 = .ok (.ireturn, 1) := by decide +kernel
theorem dL_ticks_150 : decode cL_ticks 150 = .ok (.iconst 3, 1) := by decide +kernel
theorem dL_ticks_151 : decode cL_ticks 151 = .ok (.newarray .long, 2) := by decide +kernel
theorem dL_ticks_153 : decode cL_ticks 153 = .ok (.astore 11, 2) := by decide +kernel
theorem dL_ticks_155 : decode cL_ticks 155 = .ok (.iconst 3, 1) := by decide +kernel
theorem dL_ticks_156 : decode cL_ticks 156 = .ok (.newarray .long, 2) := by decide +kernel
theorem dL_ticks_158 : decode cL_ticks 158 = .ok (.astore 12, 2) := by decide +kernel
theorem dL_ticks_160 : decode cL_ticks 160 = .ok (.iconst 0, 1) := by decide +kernel
theorem dL_ticks_161 : decode cL_ticks 161 = .ok (.istore 13, 2) := by decide +kernel
theorem dL_ticks_163 : decode cL_ticks 163 = .ok (.iconst 0, 1) := by decide +kernel
theorem dL_ticks_164 : decode cL_ticks 164 = .ok (.istore 14, 2) := by decide +kernel
theorem dL_ticks_166 : decode cL_ticks 166 = .ok (.iload 14, 2) := by decide +kernel
theorem dL_ticks_168 : decode cL_ticks 168 = .ok (.iload_n 2, 1) := by decide +kernel
theorem dL_ticks_169 : decode cL_ticks 169 = .ok (.if_icmp .ge 318, 3) := by decide +kernel
theorem dL_ticks_172 : decode cL_ticks 172 = .ok (.aload_n 0, 1) := by decide +kernel
theorem dL_ticks_173 : decode cL_ticks 173 = .ok (.iload 14, 2) := by decide +kernel
theorem dL_ticks_175 : decode cL_ticks 175 = .ok (.bipush 7, 2) := by decide +kernel
theorem dL_ticks_177 : decode cL_ticks 177 = .ok (.invokevirtual 75, 3) := by decide +kernel
theorem dL_ticks_180 : decode cL_ticks 180 = .ok (.istore 15, 2) := by decide +kernel
theorem dL_ticks_182 : decode cL_ticks 182 = .ok (.aload_n 0, 1) := by decide +kernel
theorem dL_ticks_183 : decode cL_ticks 183 = .ok (.iload 14, 2) := by decide +kernel
theorem dL_ticks_185 : decode cL_ticks 185 = .ok (.iconst 0, 1) := by decide +kernel
theorem dL_ticks_186 : decode cL_ticks 186 = .ok (.invokevirtual 75, 3) := by decide +kernel
theorem dL_ticks_189 : decode cL_ticks 189 = .ok (.istore 16, 2) := by decide +kernel
theorem dL_ticks_191 : decode cL_ticks 191 = .ok (.aload_n 0, 1) := by decide +kernel
theorem dL_ticks_192 : decode cL_ticks 192 = .ok (.iload 14, 2) := by decide +kernel
theorem dL_ticks_194 : decode cL_ticks 194 = .ok (.iconst 3, 1) := by decide +kernel
theorem dL_ticks_195 : decode cL_ticks 195 = .ok (.invokevirtual 75, 3) := by decide +kernel
theorem dL_ticks_198 : decode cL_ticks 198 = .ok (.istore 17, 2) := by decide +kernel
theorem dL_ticks_200 : decode cL_ticks 200 = .ok (.aload_n 0, 1) := by decide +kernel
theorem dL_ticks_201 : decode cL_ticks 201 = .ok (.iload 14, 2) := by decide +kernel
theorem dL_ticks_203 : decode cL_ticks 203 = .ok (.bipush 8, 2) := by decide +kernel
theorem dL_ticks_205 : decode cL_ticks 205 = .ok (.invokevirtual 75, 3) := by decide +kernel
theorem dL_ticks_208 : decode cL_ticks 208 = .ok (.istore 18, 2) := by decide +kernel
theorem dL_ticks_210 : decode cL_ticks 210 = .ok (.iload 15, 2) := by decide +kernel
theorem dL_ticks_212 : decode cL_ticks 212 = .ok (.aload_n 3, 1) := by decide +kernel
theorem dL_ticks_213 : decode cL_ticks 213 = .ok (.iload 14, 2) := by decide +kernel
theorem dL_ticks_215 : decode cL_ticks 215 = .ok (.iaload, 1) := by decide +kernel
theorem dL_ticks_216 : decode cL_ticks 216 = .ok (.iload 17, 2) := by decide +kernel
theorem dL_ticks_218 : decode cL_ticks 218 = .ok (.isub, 1) := by decide +kernel
theorem dL_ticks_219 : decode cL_ticks 219 = .ok (.if_icmp .lt 43, 3) := by decide +kernel
theorem dL_ticks_222 : decode cL_ticks 222 = .ok (.iload 15, 2) := by decide +kernel
theorem dL_ticks_224 : decode cL_ticks 224 = .ok (.aload_n 3, 1) := by decide +kernel
theorem dL_ticks_225 : decode cL_ticks 225 = .ok (.iload 14, 2) := by decide +kernel
theorem dL_ticks_227 : decode cL_ticks 227 = .ok (.iaload, 1) := by decide +kernel
theorem dL_ticks_228 : decode cL_ticks 228 = .ok (.iload 17, 2) := by decide +kernel
theorem dL_ticks_230 : decode cL_ticks 230 = .ok (.iadd, 1) := by decide +kernel
theorem dL_ticks_231 : decode cL_ticks 231 = .ok (.if_icmp .gt 31, 3) := by decide +kernel
theorem dL_ticks_234 : decode cL_ticks 234 = .ok (.iload 15, 2) := by decide +kernel
theorem dL_ticks_236 : decode cL_ticks 236 = .ok (.ifCond .lt 26, 3) := by decide +kernel
theorem dL_ticks_239 : decode cL_ticks 239 = .ok (.iload 15, 2) := by decide +kernel
theorem dL_ticks_241 : decode cL_ticks 241 = .ok (.sipush 1000, 3) := by decide +kernel
theorem dL_ticks_244 : decode cL_ticks 244 = .ok (.if_icmp .gt 18, 3) := by decide +kernel
theorem dL_ticks_247 : decode cL_ticks 247 = .ok (.iload 18, 2) := by decide +kernel
theorem dL_ticks_249 : decode cL_ticks 249 = .ok (.iload 15, 2) := by decide +kernel
theorem dL_ticks_251 : decode cL_ticks 251 = .ok (.iload 16, 2) := by decide +kernel
theorem dL_ticks_253 : decode cL_ticks 253 = .ok (.imul, 1) := by decide +kernel
theorem dL_ticks_254 : decode cL_ticks 254 = .ok (.if_icmp .gt 8, 3) := by decide +kernel
theorem dL_ticks_257 : decode cL_ticks 257 = .ok (.iload 18, 2) := by decide +kernel
theorem dL_ticks_259 : decode cL_ticks 259 = .ok (.ifCond .ge 5, 3) := by decide +kernel
theorem dL_ticks_262 : decode cL_ticks 262 = .ok (.iconst 0, 1) := by decide +kernel
theorem dL_ticks_263 : decode cL_ticks 263 = .ok (.ireturn, 1) := by decide +kernel
theorem dL_ticks_264 : decode cL_ticks 264 = .ok (.aload_n 0, 1) := by decide +kernel
theorem dL_ticks_265 : decode cL_ticks 265 = .ok (.iconst 5, 1) := by decide +kernel
theorem dL_ticks_266 : decode cL_ticks 266 = .ok (.invokevirtual 63, 3) := by decide +kernel
theorem dL_ticks_269 : decode cL_ticks 269 = .ok (.iconst 2, 1) := by decide +kernel
theorem dL_ticks_270 : decode cL_ticks 270 = .ok (.if_icmp .ne 20, 3) := by decide +kernel
theorem dL_ticks_273 : decode cL_ticks 273 = .ok (.iload 15, 2) := by decide +kernel
theorem dL_ticks_275 : decode cL_ticks 275 = .ok (.ifCond .le 15, 3) := by decide +kernel
theorem dL_ticks_278 : decode cL_ticks 278 = .ok (.iload 15, 2) := by decide +kernel
theorem dL_ticks_280 : decode cL_ticks 280 = .ok (.aload_n 3, 1) := by decide +kernel
theorem dL_ticks_281 : decode cL_ticks 281 = .ok (.iload 14, 2) := by decide +kernel
theorem dL_ticks_283 : decode cL_ticks 283 = .ok (.iaload, 1) := by decide +kernel
theorem dL_ticks_284 : decode cL_ticks 284 = .ok (.iload 17, 2) := by decide +kernel
theorem dL_ticks_286 : decode cL_ticks 286 = .ok (.isub, 1) := by decide +kernel
theorem dL_ticks_287 : decode cL_ticks 287 = .ok (.if_icmp .ne 35, 3) := by decide +kernel
theorem dL_ticks_290 : decode cL_ticks 290 = .ok (.aload_n 0, 1) := by decide +kernel
theorem dL_ticks_291 : decode cL_ticks 291 = .ok (.iconst 5, 1) := by decide +kernel
theorem dL_ticks_292 : decode cL_ticks 292 = .ok (.invokevirtual 63, 3) := by decide +kernel
theorem dL_ticks_295 : decode cL_ticks 295 = .ok (.iconst 1, 1) := by decide +kernel
theorem dL_ticks_296 : decode cL_ticks 296 = .ok (.if_icmp .ne 28, 3) := by decide +kernel
theorem dL_ticks_299 : decode cL_ticks 299 = .ok (.iload 15, 2) := by decide +kernel
theorem dL_ticks_301 : decode cL_ticks 301 = .ok (.aload_n 0, 1) := by decide +kernel
theorem dL_ticks_302 : decode cL_ticks 302 = .ok (.bipush 13, 2) := by decide +kernel
theorem dL_ticks_304 : decode cL_ticks 304 = .ok (.invokevirtual 63, 3) := by decide +kernel
theorem dL_ticks_307 : decode cL_ticks 307 = .ok (.if_icmp .le 17, 3) := by decide +kernel
theorem dL_ticks_310 : decode cL_ticks 310 = .ok (.iload 15, 2) := by decide +kernel
theorem dL_ticks_312 : decode cL_ticks 312 = .ok (.aload_n 3, 1) := by decide +kernel
theorem dL_ticks_313 : decode cL_ticks 313 = .ok (.iload 14, 2) := by decide +kernel
theorem dL_ticks_315 : decode cL_ticks 315 = .ok (.iaload, 1) := by decide +kernel
theorem dL_ticks_316 : decode cL_ticks 316 = .ok (.iload 17, 2) := by decide +kernel
theorem dL_ticks_318 : decode cL_ticks 318 = .ok (.isub, 1) := by decide +kernel
theorem dL_ticks_319 : decode cL_ticks 319 = .ok (.if_icmp .eq 5, 3) := by decide +kernel
theorem dL_ticks_322 : decode cL_ticks 322 = .ok (.iconst 0, 1) := by decide +kernel
theorem dL_ticks_323 : decode cL_ticks 323 = .ok (.ireturn, 1) := by decide +kernel
theorem dL_ticks_324 : decode cL_ticks 324 = .ok (.iload 18, 2) := by decide +kernel
theorem dL_ticks_326 : decode cL_ticks 326 = .ok (.iload 16, 2) := by decide +kernel
theorem dL_ticks_328 : decode cL_ticks 328 = .ok (.idiv, 1) := by decide +kernel
theorem dL_ticks_329 : decode cL_ticks 329 = .ok (.i2l, 1) := by decide +kernel
theorem dL_ticks_330 : decode cL_ticks 330 = .ok (.lstore 19, 2) := by decide +kernel
theorem dL_ticks_332 : decode cL_ticks 332 = .ok (.aload_n 0, 1) := by decide +kernel
theorem dL_ticks_333 : decode cL_ticks 333 = .ok (.iload 14, 2) := by decide +kernel
theorem dL_ticks_335 : decode cL_ticks 335 = .ok (.bipush 9, 2) := by decide +kernel
theorem dL_ticks_337 : decode cL_ticks 337 = .ok (.invokevirtual 75, 3) := by decide +kernel
theorem dL_ticks_340 : decode cL_ticks 340 = .ok (.lload 19, 2) := by decide +kernel
theorem dL_ticks_342 : decode cL_ticks 342 = .ok (.lload 19, 2) := by decide +kernel
theorem dL_ticks_344 : decode cL_ticks 344 = .ok (.lmul, 1) := by decide +kernel
theorem dL_ticks_345 : decode cL_ticks 345 = .ok (.aload_n 0, 1) := by decide +kernel
theorem dL_ticks_346 : decode cL_ticks 346 = .ok (.iload 14, 2) := by decide +kernel
theorem dL_ticks_348 : decode cL_ticks 348 = .ok (.iconst 1, 1) := by decide +kernel
theorem dL_ticks_349 : decode cL_ticks 349 = .ok (.invokevirtual 75, 3) := by decide +kernel
theorem dL_ticks_352 : decode cL_ticks 352 = .ok (.i2l, 1) := by decide +kernel
theorem dL_ticks_353 : decode cL_ticks 353 = .ok (.lmul, 1) := by decide +kernel
theorem dL_ticks_354 : decode cL_ticks 354 = .ok (.ldc2_w 93, 3) := by decide +kernel
theorem dL_ticks_357 : decode cL_ticks 357 = .ok (.ldiv, 1) := by decide +kernel
theorem dL_ticks_358 : decode cL_ticks 358 = .ok (.l2i, 1) := by decide +kernel
theorem dL_ticks_359 : decode cL_ticks 359 = .ok (.if_icmp .ne 58, 3) := by decide +kernel
theorem dL_ticks_362 : decode cL_ticks 362 = .ok (.aload_n 0, 1) := by decide +kernel
theorem dL_ticks_363 : decode cL_ticks 363 = .ok (.iload 14, 2) := by decide +kernel
theorem dL_ticks_365 : decode cL_ticks 365 = .ok (.bipush 10, 2) := by decide +kernel
theorem dL_ticks_367 : decode cL_ticks 367 = .ok (.invokevirtual 75, 3) := by decide +kernel
theorem dL_ticks_370 : decode cL_ticks 370 = .ok (.aload_n 0, 1) := by decide +kernel
theorem dL_ticks_371 : decode cL_ticks 371 = .ok (.iload 14, 2) := by decide +kernel
theorem dL_ticks_373 : decode cL_ticks 373 = .ok (.bipush 9, 2) := by decide +kernel
theorem dL_ticks_375 : decode cL_ticks 375 = .ok (.invokevirtual 75, 3) := by decide +kernel
theorem dL_ticks_378 : decode cL_ticks 378 = .ok (.aload_n 0, 1) := by decide +kernel
theorem dL_ticks_379 : decode cL_ticks 379 = .ok (.iconst 4, 1) := by decide +kernel
theorem dL_ticks_380 : decode cL_ticks 380 = .ok (.invokevirtual 63, 3) := by decide +kernel
theorem dL_ticks_383 : decode cL_ticks 383 = .ok (.imul, 1) := by decide +kernel
theorem dL_ticks_384 : decode cL_ticks 384 = .ok (.aload_n 0, 1) := by decide +kernel
theorem dL_ticks_385 : decode cL_ticks 385 = .ok (.iload 14, 2) := by decide +kernel
theorem dL_ticks_387 : decode cL_ticks 387 = .ok (.iconst 5, 1) := by decide +kernel
theorem dL_ticks_388 : decode cL_ticks 388 = .ok (.invokevirtual 75, 3) := by decide +kernel
theorem dL_ticks_391 : decode cL_ticks 391 = .ok (.imul, 1) := by decide +kernel
theorem dL_ticks_392 : decode cL_ticks 392 = .ok (.ldc 95, 2) := by decide +kernel
theorem dL_ticks_394 : decode cL_ticks 394 = .ok (.idiv, 1) := by decide +kernel
theorem dL_ticks_395 : decode cL_ticks 395 = .ok (.if_icmp .ne 22, 3) := by decide +kernel
theorem dL_ticks_398 : decode cL_ticks 398 = .ok (.aload_n 0, 1) := by decide +kernel
theorem dL_ticks_399 : decode cL_ticks 399 = .ok (.iload 14, 2) := by decide +kernel
theorem dL_ticks_401 : decode cL_ticks 401 = .ok (.bipush 11, 2) := by decide +kernel
theorem dL_ticks_403 : decode cL_ticks 403 = .ok (.invokevirtual 75, 3) := by decide +kernel
theorem dL_ticks_406 : decode cL_ticks 406 = .ok (.aload_n 0, 1) := by decide +kernel
theorem dL_ticks_407 : decode cL_ticks 407 = .ok (.iload 14, 2) := by decide +kernel
theorem dL_ticks_409 : decode cL_ticks 409 = .ok (.bipush 9, 2) := by decide +kernel
theorem dL_ticks_411 : decode cL_ticks 411 = .ok (.invokevirtual 75, 3) := by decide +kernel
theorem dL_ticks_414 : decode cL_ticks 414 = .ok (.if_icmp .ge 5, 3) := by decide +kernel
theorem dL_ticks_417 : decode cL_ticks 417 = .ok (.iconst 0, 1) := by decide +kernel
theorem dL_ticks_418 : decode cL_ticks 418 = .ok (.ireturn, 1) := by decide +kernel
theorem dL_ticks_419 : decode cL_ticks 419 = .ok (.aload 11, 2) := by decide +kernel
theorem dL_ticks_421 : decode cL_ticks 421 = .ok (.aload_n 0, 1) := by decide +kernel
theorem dL_ticks_422 : decode cL_ticks 422 = .ok (.iload 14, 2) := by decide +kernel
theorem dL_ticks_424 : decode cL_ticks 424 = .ok (.iconst 4, 1) := by decide +kernel
theorem dL_ticks_425 : decode cL_ticks 425 = .ok (.invokevirtual 75, 3) := by decide +kernel
theorem dL_ticks_428 : decode cL_ticks 428 = .ok (.dup2, 1) := by decide +kernel
theorem dL_ticks_429 : decode cL_ticks 429 = .ok (.laload, 1) := by decide +kernel
theorem dL_ticks_430 : decode cL_ticks 430 = .ok (.iload 15, 2) := by decide +kernel
theorem dL_ticks_432 : decode cL_ticks 432 = .ok (.iload 16, 2) := by decide +kernel
theorem dL_ticks_434 : decode cL_ticks 434 = .ok (.imul, 1) := by decide +kernel
theorem dL_ticks_435 : decode cL_ticks 435 = .ok (.i2l, 1) := by decide +kernel
theorem dL_ticks_436 : decode cL_ticks 436 = .ok (.ladd, 1) := by decide +kernel
theorem dL_ticks_437 : decode cL_ticks 437 = .ok (.lastore, 1) := by decide +kernel
theorem dL_ticks_438 : decode cL_ticks 438 = .ok (.aload 12, 2) := by decide +kernel
theorem dL_ticks_440 : decode cL_ticks 440 = .ok (.aload_n 0, 1) := by decide +kernel
theorem dL_ticks_441 : decode cL_ticks 441 = .ok (.iload 14, 2) := by decide +kernel
theorem dL_ticks_443 : decode cL_ticks 443 = .ok (.iconst 4, 1) := by decide +kernel
theorem dL_ticks_444 : decode cL_ticks 444 = .ok (.invokevirtual 75, 3) := by decide +kernel
theorem dL_ticks_447 : decode cL_ticks 447 = .ok (.dup2, 1) := by decide +kernel
theorem dL_ticks_448 : decode cL_ticks 448 = .ok (.laload, 1) := by decide +kernel
theorem dL_ticks_449 : decode cL_ticks 449 = .ok (.iload 18, 2) := by decide +kernel
theorem dL_ticks_451 : decode cL_ticks 451 = .ok (.i2l, 1) := by decide +kernel
theorem dL_ticks_452 : decode cL_ticks 452 = .ok (.ladd, 1) := by decide +kernel
theorem dL_ticks_453 : decode cL_ticks 453 = .ok (.lastore, 1) := by decide +kernel
theorem dL_ticks_454 : decode cL_ticks 454 = .ok (.iload 13, 2) := by decide +kernel
theorem dL_ticks_456 : decode cL_ticks 456 = .ok (.aload_n 0, 1) := by decide +kernel
theorem dL_ticks_457 : decode cL_ticks 457 = .ok (.iload 14, 2) := by decide +kernel
theorem dL_ticks_459 : decode cL_ticks 459 = .ok (.bipush 10, 2) := by decide +kernel
theorem dL_ticks_461 : decode cL_ticks 461 = .ok (.invokevirtual 75, 3) := by decide +kernel
theorem dL_ticks_464 : decode cL_ticks 464 = .ok (.aload_n 0, 1) := by decide +kernel
theorem dL_ticks_465 : decode cL_ticks 465 = .ok (.bipush 15, 2) := by decide +kernel
theorem dL_ticks_467 : decode cL_ticks 467 = .ok (.invokevirtual 63, 3) := by decide +kernel
theorem dL_ticks_470 : decode cL_ticks 470 = .ok (.if_icmp .le 7, 3) := by decide +kernel
theorem dL_ticks_473 : decode cL_ticks 473 = .ok (.iconst 1, 1) := by decide +kernel
theorem dL_ticks_474 : decode cL_ticks 474 = .ok (.goto 4, 3) := by decide +kernel
theorem dL_ticks_477 : decode cL_ticks 477 = .ok (.iconst 0, 1) := by decide +kernel
theorem dL_ticks_478 : decode cL_ticks 478 = .ok (.ior, 1) := by decide +kernel
theorem dL_ticks_479 : decode cL_ticks 479 = .ok (.istore 13, 2) := by decide +kernel
theorem dL_ticks_481 : decode cL_ticks 481 = .ok (.iinc 14 1, 3) := by decide +kernel
theorem dL_ticks_484 : decode cL_ticks 484 = .ok (.goto (-318), 3) := by decide +kernel
theorem dL_ticks_487 : decode cL_ticks 487 = .ok (.iconst 0, 1) := by decide +kernel
theorem dL_ticks_488 : decode cL_ticks 488 = .ok (.istore 14, 2) := by decide +kernel
theorem dL_ticks_490 : decode cL_ticks 490 = .ok (.iload 14, 2) := by decide +kernel
theorem dL_ticks_492 : decode cL_ticks 492 = .ok (.iconst 3, 1) := by decide +kernel
theorem dL_ticks_493 : decode cL_ticks 493 = .ok (.if_icmp .ge 226, 3) := by decide +kernel
theorem dL_ticks_496 : decode cL_ticks 496 = .ok (.aload_n 0, 1) := by decide +kernel
theorem dL_ticks_497 : decode cL_ticks 497 = .ok (.iload 14, 2) := by decide +kernel
theorem dL_ticks_499 : decode cL_ticks 499 = .ok (.iconst 2, 1) := by decide +kernel
theorem dL_ticks_500 : decode cL_ticks 500 = .ok (.invokevirtual 84, 3) := by decide +kernel
theorem dL_ticks_503 : decode cL_ticks 503 = .ok (.istore 15, 2) := by decide +kernel
theorem dL_ticks_505 : decode cL_ticks 505 = .ok (.sipush 1000, 3) := by decide +kernel
theorem dL_ticks_508 : decode cL_ticks 508 = .ok (.aload_n 0, 1) := by decide +kernel
theorem dL_ticks_509 : decode cL_ticks 509 = .ok (.iload 14, 2) := by decide +kernel
theorem dL_ticks_511 : decode cL_ticks 511 = .ok (.iconst 1, 1) := by decide +kernel
theorem dL_ticks_512 : decode cL_ticks 512 = .ok (.invokevirtual 84, 3) := by decide +kernel
theorem dL_ticks_515 : decode cL_ticks 515 = .ok (.imul, 1) := by decide +kernel
theorem dL_ticks_516 : decode cL_ticks 516 = .ok (.istore 16, 2) := by decide +kernel
theorem dL_ticks_518 : decode cL_ticks 518 = .ok (.aload_n 0, 1) := by decide +kernel
theorem dL_ticks_519 : decode cL_ticks 519 = .ok (.iload 14, 2) := by decide +kernel
theorem dL_ticks_521 : decode cL_ticks 521 = .ok (.iconst 3, 1) := by decide +kernel
theorem dL_ticks_522 : decode cL_ticks 522 = .ok (.invokevirtual 84, 3) := by decide +kernel
theorem dL_ticks_525 : decode cL_ticks 525 = .ok (.i2l, 1) := by decide +kernel
theorem dL_ticks_526 : decode cL_ticks 526 = .ok (.aload 11, 2) := by decide +kernel
theorem dL_ticks_528 : decode cL_ticks 528 = .ok (.iload 14, 2) := by decide +kernel
theorem dL_ticks_530 : decode cL_ticks 530 = .ok (.laload, 1) := by decide +kernel
theorem dL_ticks_531 : decode cL_ticks 531 = .ok (.lcmp, 1) := by decide +kernel
theorem dL_ticks_532 : decode cL_ticks 532 = .ok (.ifCond .ne 84, 3) := by decide +kernel
theorem dL_ticks_535 : decode cL_ticks 535 = .ok (.aload 12, 2) := by decide +kernel
theorem dL_ticks_537 : decode cL_ticks 537 = .ok (.iload 14, 2) := by decide +kernel
theorem dL_ticks_539 : decode cL_ticks 539 = .ok (.laload, 1) := by decide +kernel
theorem dL_ticks_540 : decode cL_ticks 540 = .ok (.iload 15, 2) := by decide +kernel
theorem dL_ticks_542 : decode cL_ticks 542 = .ok (.i2l, 1) := by decide +kernel
theorem dL_ticks_543 : decode cL_ticks 543 = .ok (.lcmp, 1) := by decide +kernel
theorem dL_ticks_544 : decode cL_ticks 544 = .ok (.ifCond .le 13, 3) := by decide +kernel
theorem dL_ticks_547 : decode cL_ticks 547 = .ok (.aload 12, 2) := by decide +kernel
theorem dL_ticks_549 : decode cL_ticks 549 = .ok (.iload 14, 2) := by decide +kernel
theorem dL_ticks_551 : decode cL_ticks 551 = .ok (.laload, 1) := by decide +kernel
theorem dL_ticks_552 : decode cL_ticks 552 = .ok (.lconst 0, 1) := by decide +kernel
theorem dL_ticks_553 : decode cL_ticks 553 = .ok (.lcmp, 1) := by decide +kernel
theorem dL_ticks_554 : decode cL_ticks 554 = .ok (.ifCond .ne 62, 3) := by decide +kernel
theorem dL_ticks_557 : decode cL_ticks 557 = .ok (.iload 15, 2) := by decide +kernel
theorem dL_ticks_559 : decode cL_ticks 559 = .ok (.aload 4, 2) := by decide +kernel
theorem dL_ticks_561 : decode cL_ticks 561 = .ok (.iload 14, 2) := by decide +kernel
theorem dL_ticks_563 : decode cL_ticks 563 = .ok (.iaload, 1) := by decide +kernel
theorem dL_ticks_564 : decode cL_ticks 564 = .ok (.iload 16, 2) := by decide +kernel
theorem dL_ticks_566 : decode cL_ticks 566 = .ok (.iadd, 1) := by decide +kernel
theorem dL_ticks_567 : decode cL_ticks 567 = .ok (.if_icmp .gt 49, 3) := by decide +kernel
theorem dL_ticks_570 : decode cL_ticks 570 = .ok (.iload 15, 2) := by decide +kernel
theorem dL_ticks_572 : decode cL_ticks 572 = .ok (.aload 4, 2) := by decide +kernel
theorem dL_ticks_574 : decode cL_ticks 574 = .ok (.iload 14, 2) := by decide +kernel
theorem dL_ticks_576 : decode cL_ticks 576 = .ok (.iaload, 1) := by decide +kernel
theorem dL_ticks_577 : decode cL_ticks 577 = .ok (.iload 16, 2) := by decide +kernel
theorem dL_ticks_579 : decode cL_ticks 579 = .ok (.isub, 1) := by decide +kernel
theorem dL_ticks_580 : decode cL_ticks 580 = .ok (.if_icmp .lt 36, 3) := by decide +kernel
theorem dL_ticks_583 : decode cL_ticks 583 = .ok (.aload_n 0, 1) := by decide +kernel
theorem dL_ticks_584 : decode cL_ticks 584 = .ok (.iload 14, 2) := by decide +kernel
theorem dL_ticks_586 : decode cL_ticks 586 = .ok (.iconst 4, 1) := by decide +kernel
theorem dL_ticks_587 : decode cL_ticks 587 = .ok (.invokevirtual 84, 3) := by decide +kernel
theorem dL_ticks_590 : decode cL_ticks 590 = .ok (.aload 5, 2) := by decide +kernel
theorem dL_ticks_592 : decode cL_ticks 592 = .ok (.iload 14, 2) := by decide +kernel
theorem dL_ticks_594 : decode cL_ticks 594 = .ok (.iaload, 1) := by decide +kernel
theorem dL_ticks_595 : decode cL_ticks 595 = .ok (.aload 11, 2) := by decide +kernel
theorem dL_ticks_597 : decode cL_ticks 597 = .ok (.iload 14, 2) := by decide +kernel
theorem dL_ticks_599 : decode cL_ticks 599 = .ok (.laload, 1) := by decide +kernel
theorem dL_ticks_600 : decode cL_ticks 600 = .ok (.iload 15, 2) := by decide +kernel
theorem dL_ticks_602 : decode cL_ticks 602 = .ok (.i2l, 1) := by decide +kernel
theorem dL_ticks_603 : decode cL_ticks 603 = .ok (.lcmp, 1) := by decide +kernel
theorem dL_ticks_604 : decode cL_ticks 604 = .ok (.ifCond .le 7, 3) := by decide +kernel
theorem dL_ticks_607 : decode cL_ticks 607 = .ok (.iconst 1, 1) := by decide +kernel
theorem dL_ticks_608 : decode cL_ticks 608 = .ok (.goto 4, 3) := by decide +kernel
theorem dL_ticks_611 : decode cL_ticks 611 = .ok (.iconst 0, 1) := by decide +kernel
theorem dL_ticks_612 : decode cL_ticks 612 = .ok (.iadd, 1) := by decide +kernel
theorem dL_ticks_613 : decode cL_ticks 613 = .ok (.if_icmp .eq 5, 3) := by decide +kernel
theorem dL_ticks_616 : decode cL_ticks 616 = .ok (.iconst 0, 1) := by decide +kernel
theorem dL_ticks_617 : decode cL_ticks 617 = .ok (.ireturn, 1) := by decide +kernel
theorem dL_ticks_618 : decode cL_ticks 618 = .ok (.aload 11, 2) := by decide +kernel
theorem dL_ticks_620 : decode cL_ticks 620 = .ok (.iload 14, 2) := by decide +kernel
theorem dL_ticks_622 : decode cL_ticks 622 = .ok (.laload, 1) := by decide +kernel
theorem dL_ticks_623 : decode cL_ticks 623 = .ok (.iload 15, 2) := by decide +kernel
theorem dL_ticks_625 : decode cL_ticks 625 = .ok (.i2l, 1) := by decide +kernel
theorem dL_ticks_626 : decode cL_ticks 626 = .ok (.lcmp, 1) := by decide +kernel
theorem dL_ticks_627 : decode cL_ticks 627 = .ok (.ifCond .gt 17, 3) := by decide +kernel
theorem dL_ticks_630 : decode cL_ticks 630 = .ok (.aload 12, 2) := by decide +kernel
theorem dL_ticks_632 : decode cL_ticks 632 = .ok (.iload 14, 2) := by decide +kernel
theorem dL_ticks_634 : decode cL_ticks 634 = .ok (.laload, 1) := by decide +kernel
theorem dL_ticks_635 : decode cL_ticks 635 = .ok (.aload 11, 2) := by decide +kernel
theorem dL_ticks_637 : decode cL_ticks 637 = .ok (.iload 14, 2) := by decide +kernel
theorem dL_ticks_639 : decode cL_ticks 639 = .ok (.laload, 1) := by decide +kernel
theorem dL_ticks_640 : decode cL_ticks 640 = .ok (.lcmp, 1) := by decide +kernel
theorem dL_ticks_641 : decode cL_ticks 641 = .ok (.ifCond .ne 30, 3) := by decide +kernel
theorem dL_ticks_644 : decode cL_ticks 644 = .ok (.aload 11, 2) := by decide +kernel
theorem dL_ticks_646 : decode cL_ticks 646 = .ok (.iload 14, 2) := by decide +kernel
theorem dL_ticks_648 : decode cL_ticks 648 = .ok (.laload, 1) := by decide +kernel
theorem dL_ticks_649 : decode cL_ticks 649 = .ok (.iload 15, 2) := by decide +kernel
theorem dL_ticks_651 : decode cL_ticks 651 = .ok (.i2l, 1) := by decide +kernel
theorem dL_ticks_652 : decode cL_ticks 652 = .ok (.lcmp, 1) := by decide +kernel
theorem dL_ticks_653 : decode cL_ticks 653 = .ok (.ifCond .le 20, 3) := by decide +kernel
theorem dL_ticks_656 : decode cL_ticks 656 = .ok (.iload 15, 2) := by decide +kernel
theorem dL_ticks_658 : decode cL_ticks 658 = .ok (.i2l, 1) := by decide +kernel
theorem dL_ticks_659 : decode cL_ticks 659 = .ok (.aload 12, 2) := by decide +kernel
theorem dL_ticks_661 : decode cL_ticks 661 = .ok (.iload 14, 2) := by decide +kernel
theorem dL_ticks_663 : decode cL_ticks 663 = .ok (.laload, 1) := by decide +kernel
theorem dL_ticks_664 : decode cL_ticks 664 = .ok (.lsub, 1) := by decide +kernel
theorem dL_ticks_665 : decode cL_ticks 665 = .ok (.iload_n 2, 1) := by decide +kernel
theorem dL_ticks_666 : decode cL_ticks 666 = .ok (.i2l, 1) := by decide +kernel
theorem dL_ticks_667 : decode cL_ticks 667 = .ok (.lcmp, 1) := by decide +kernel
theorem dL_ticks_668 : decode cL_ticks 668 = .ok (.ifCond .le 5, 3) := by decide +kernel
theorem dL_ticks_671 : decode cL_ticks 671 = .ok (.iconst 0, 1) := by decide +kernel
theorem dL_ticks_672 : decode cL_ticks 672 = .ok (.ireturn, 1) := by decide +kernel
theorem dL_ticks_673 : decode cL_ticks 673 = .ok (.iload 15, 2) := by decide +kernel
theorem dL_ticks_675 : decode cL_ticks 675 = .ok (.aload 4, 2) := by decide +kernel
theorem dL_ticks_677 : decode cL_ticks 677 = .ok (.iload 14, 2) := by decide +kernel
theorem dL_ticks_679 : decode cL_ticks 679 = .ok (.iaload, 1) := by decide +kernel
theorem dL_ticks_680 : decode cL_ticks 680 = .ok (.if_icmp .le 33, 3) := by decide +kernel
theorem dL_ticks_683 : decode cL_ticks 683 = .ok (.iload 15, 2) := by decide +kernel
theorem dL_ticks_685 : decode cL_ticks 685 = .ok (.i2l, 1) := by decide +kernel
theorem dL_ticks_686 : decode cL_ticks 686 = .ok (.aload 11, 2) := by decide +kernel
theorem dL_ticks_688 : decode cL_ticks 688 = .ok (.iload 14, 2) := by decide +kernel
theorem dL_ticks_690 : decode cL_ticks 690 = .ok (.laload, 1) := by decide +kernel
theorem dL_ticks_691 : decode cL_ticks 691 = .ok (.lcmp, 1) := by decide +kernel
theorem dL_ticks_692 : decode cL_ticks 692 = .ok (.ifCond .gt 19, 3) := by decide +kernel
theorem dL_ticks_695 : decode cL_ticks 695 = .ok (.iload 15, 2) := by decide +kernel
theorem dL_ticks_697 : decode cL_ticks 697 = .ok (.sipush 1000, 3) := by decide +kernel
theorem dL_ticks_700 : decode cL_ticks 700 = .ok (.aload_n 0, 1) := by decide +kernel
theorem dL_ticks_701 : decode cL_ticks 701 = .ok (.iload 14, 2) := by decide +kernel
theorem dL_ticks_703 : decode cL_ticks 703 = .ok (.iconst 0, 1) := by decide +kernel
theorem dL_ticks_704 : decode cL_ticks 704 = .ok (.invokevirtual 84, 3) := by decide +kernel
theorem dL_ticks_707 : decode cL_ticks 707 = .ok (.imul, 1) := by decide +kernel
theorem dL_ticks_708 : decode cL_ticks 708 = .ok (.if_icmp .le 5, 3) := by decide +kernel
theorem dL_ticks_711 : decode cL_ticks 711 = .ok (.iconst 0, 1) := by decide +kernel
theorem dL_ticks_712 : decode cL_ticks 712 = .ok (.ireturn, 1) := by decide +kernel
theorem dL_ticks_713 : decode cL_ticks 713 = .ok (.iinc 14 1, 3) := by decide +kernel
theorem dL_ticks_716 : decode cL_ticks 716 = .ok (.goto (-226), 3) := by decide +kernel
theorem dL_ticks_719 : decode cL_ticks 719 = .ok (.aload_n 0, 1) := by decide +kernel
theorem dL_ticks_720 : decode cL_ticks 720 = .ok (.bipush 7, 2) := by decide +kernel
theorem dL_ticks_722 : decode cL_ticks 722 = .ok (.invokevirtual 63, 3) := by decide +kernel
theorem dL_ticks_725 : decode cL_ticks 725 = .ok (.iload 8, 2) := by decide +kernel
theorem dL_ticks_727 : decode cL_ticks 727 = .ok (.iload 13, 2) := by decide +kernel
theorem dL_ticks_729 : decode cL_ticks 729 = .ok (.ifCond .eq 7, 3) := by decide +kernel
theorem dL_ticks_732 : decode cL_ticks 732 = .ok (.iconst 1, 1) := by decide +kernel
theorem dL_ticks_733 : decode cL_ticks 733 = .ok (.goto 4, 3) := by decide +kernel
theorem dL_ticks_736 : decode cL_ticks 736 = .ok (.iconst 0, 1) := by decide +kernel
theorem dL_ticks_737 : decode cL_ticks 737 = .ok (.iadd, 1) := by decide +kernel
theorem dL_ticks_738 : decode cL_ticks 738 = .ok (.if_icmp .eq 5, 3) := by decide +kernel
theorem dL_ticks_741 : decode cL_ticks 741 = .ok (.iconst 0, 1) := by decide +kernel
theorem dL_ticks_742 : decode cL_ticks 742 = .ok (.ireturn, 1) := by decide +kernel
theorem dL_ticks_743 : decode cL_ticks 743 = .ok (.iinc 6 1, 3) := by decide +kernel
theorem dL_ticks_746 : decode cL_ticks 746 = .ok (.goto (-722), 3) := by decide +kernel
theorem dL_ticks_749 : decode cL_ticks 749 = .ok (.iconst 1, 1) := by decide +kernel
theorem dL_ticks_750 : decode cL_ticks 750 = .ok (.ireturn, 1) := by decide +kernel
theorem dL_wind_0 : decode cL_wind 0 = .ok (.aload_n 0, 1) := by decide +kernel
theorem dL_wind_1 : decode cL_wind 1 = .ok (.iconst 4, 1) := by decide +kernel
theorem dL_wind_2 : decode cL_wind 2 = .ok (.invokevirtual 63, 3) := by decide +kernel
theorem dL_wind_5 : decode cL_wind 5 = .ok (.istore_n 3, 1) := by decide +kernel
theorem dL_wind_6 : decode cL_wind 6 = .ok (.aload_n 0, 1) := by decide +kernel
theorem dL_wind_7 : decode cL_wind 7 = .ok (.iconst 3, 1) := by decide +kernel
theorem dL_wind_8 : decode cL_wind 8 = .ok (.invokevirtual 63, 3) := by decide +kernel
theorem dL_wind_11 : decode cL_wind 11 = .ok (.istore 4, 2) := by decide +kernel
theorem dL_wind_13 : decode cL_wind 13 = .ok (.aload_n 0, 1) := by decide +kernel
theorem dL_wind_14 : decode cL_wind 14 = .ok (.iconst 5, 1) := by decide +kernel
theorem dL_wind_15 : decode cL_wind 15 = .ok (.invokevirtual 63, 3) := by decide +kernel
theorem dL_wind_18 : decode cL_wind 18 = .ok (.istore 5, 2) := by decide +kernel
theorem dL_wind_20 : decode cL_wind 20 = .ok (.iload_n 3, 1) := by decide +kernel
theorem dL_wind_21 : decode cL_wind 21 = .ok (.ifCond .lt 56, 3) := by decide +kernel
theorem dL_wind_24 : decode cL_wind 24 = .ok (.iload_n 3, 1) := by decide +kernel
theorem dL_wind_25 : decode cL_wind 25 = .ok (.sipush 300, 3) := by decide +kernel
theorem dL_wind_28 : decode cL_wind 28 = .ok (.if_icmp .gt 49, 3) := by decide +kernel
theorem dL_wind_31 : decode cL_wind 31 = .ok (.iload 4, 2) := by decide +kernel
theorem dL_wind_33 : decode cL_wind 33 = .ok (.iload_n 2, 1) := by decide +kernel
theorem dL_wind_34 : decode cL_wind 34 = .ok (.if_icmp .lt 8, 3) := by decide +kernel
theorem dL_wind_37 : decode cL_wind 37 = .ok (.iload_n 3, 1) := by decide +kernel
theorem dL_wind_38 : decode cL_wind 38 = .ok (.iload_n 2, 1) := by decide +kernel
theorem dL_wind_39 : decode cL_wind 39 = .ok (.if_icmp .lt 38, 3) := by decide +kernel
theorem dL_wind_42 : decode cL_wind 42 = .ok (.iload 4, 2) := by decide +kernel
theorem dL_wind_44 : decode cL_wind 44 = .ok (.iload_n 2, 1) := by decide +kernel
theorem dL_wind_45 : decode cL_wind 45 = .ok (.if_icmp .gt 8, 3) := by decide +kernel
theorem dL_wind_48 : decode cL_wind 48 = .ok (.iload_n 3, 1) := by decide +kernel
theorem dL_wind_49 : decode cL_wind 49 = .ok (.iload_n 2, 1) := by decide +kernel
theorem dL_wind_50 : decode cL_wind 50 = .ok (.if_icmp .gt 27, 3) := by decide +kernel
theorem dL_wind_53 : decode cL_wind 53 = .ok (.iload_n 3, 1) := by decide +kernel
theorem dL_wind_54 : decode cL_wind 54 = .ok (.iload 4, 2) := by decide +kernel
theorem dL_wind_56 : decode cL_wind 56 = .ok (.if_icmp .le 8, 3) := by decide +kernel
theorem dL_wind_59 : decode cL_wind 59 = .ok (.iload_n 3, 1) := by decide +kernel
theorem dL_wind_60 : decode cL_wind 60 = .ok (.iload_n 2, 1) := by decide +kernel
theorem dL_wind_61 : decode cL_wind 61 = .ok (.if_icmp .gt 16, 3) := by decide +kernel
theorem dL_wind_64 : decode cL_wind 64 = .ok (.iload_n 3, 1) := by decide +kernel
theorem dL_wind_65 : decode cL_wind 65 = .ok (.iload 4, 2) := by decide +kernel
theorem dL_wind_67 : decode cL_wind 67 = .ok (.iconst 1, 1) := by decide +kernel
theorem dL_wind_68 : decode cL_wind 68 = .ok (.isub, 1) := by decide +kernel
theorem dL_wind_69 : decode cL_wind 69 = .ok (.if_icmp .ge 10, 3) := by decide +kernel
theorem dL_wind_72 : decode cL_wind 72 = .ok (.iload_n 3, 1) := by decide +kernel
theorem dL_wind_73 : decode cL_wind 73 = .ok (.iload_n 2, 1) := by decide +kernel
theorem dL_wind_74 : decode cL_wind 74 = .ok (.if_icmp .ge 5, 3) := by decide +kernel
theorem dL_wind_77 : decode cL_wind 77 = .ok (.iconst 0, 1) := by decide +kernel
theorem dL_wind_78 : decode cL_wind 78 = .ok (.ireturn, 1) := by decide +kernel
theorem dL_wind_79 : decode cL_wind 79 = .ok (.iload_n 3, 1) := by decide +kernel
theorem dL_wind_80 : decode cL_wind 80 = .ok (.aload_n 0, 1) := by decide +kernel
theorem dL_wind_81 : decode cL_wind 81 = .ok (.bipush 12, 2) := by decide +kernel
theorem dL_wind_83 : decode cL_wind 83 = .ok (.invokevirtual 63, 3) := by decide +kernel
theorem dL_wind_86 : decode cL_wind 86 = .ok (.if_icmp .lt 24, 3) := by decide +kernel
theorem dL_wind_89 : decode cL_wind 89 = .ok (.iload 5, 2) := by decide +kernel
theorem dL_wind_91 : decode cL_wind 91 = .ok (.iconst 2, 1) := by decide +kernel
theorem dL_wind_92 : decode cL_wind 92 = .ok (.if_icmp .ne 16, 3) := by decide +kernel
theorem dL_wind_95 : decode cL_wind 95 = .ok (.aload_n 0, 1) := by decide +kernel
theorem dL_wind_96 : decode cL_wind 96 = .ok (.bipush 6, 2) := by decide +kernel
theorem dL_wind_98 : decode cL_wind 98 = .ok (.invokevirtual 63, 3) := by decide +kernel
theorem dL_wind_101 : decode cL_wind 101 = .ok (.ifCond .ne 7, 3) := by decide +kernel
theorem dL_wind_104 : decode cL_wind 104 = .ok (.iconst 1, 1) := by decide +kernel
theorem dL_wind_105 : decode cL_wind 105 = .ok (.goto 4, 3) := by decide +kernel
theorem dL_wind_108 : decode cL_wind 108 = .ok (.iconst 0, 1) := by decide +kernel
theorem dL_wind_109 : decode cL_wind 109 = .ok (.ireturn, 1) := by decide +kernel
theorem dL_wind_110 : decode cL_wind 110 = .ok (.iload 5, 2) := by decide +kernel
theorem dL_wind_112 : decode cL_wind 112 = .ok (.iload_n 1, 1) := by decide +kernel
theorem dL_wind_113 : decode cL_wind 113 = .ok (.if_icmp .le 29, 3) := by decide +kernel
theorem dL_wind_116 : decode cL_wind 116 = .ok (.iload_n 1, 1) := by decide +kernel
theorem dL_wind_117 : decode cL_wind 117 = .ok (.ifCond .ne 23, 3) := by decide +kernel
theorem dL_wind_120 : decode cL_wind 120 = .ok (.iload 5, 2) := by decide +kernel
theorem dL_wind_122 : decode cL_wind 122 = .ok (.iconst 1, 1) := by decide +kernel
theorem dL_wind_123 : decode cL_wind 123 = .ok (.if_icmp .ne 17, 3) := by decide +kernel
theorem dL_wind_126 : decode cL_wind 126 = .ok (.iload_n 3, 1) := by decide +kernel
theorem dL_wind_127 : decode cL_wind 127 = .ok (.aload_n 0, 1) := by decide +kernel
theorem dL_wind_128 : decode cL_wind 128 = .ok (.bipush 11, 2) := by decide +kernel
theorem dL_wind_130 : decode cL_wind 130 = .ok (.invokevirtual 63, 3) := by decide +kernel
theorem dL_wind_133 : decode cL_wind 133 = .ok (.if_icmp .lt 7, 3) := by decide +kernel
theorem dL_wind_136 : decode cL_wind 136 = .ok (.iconst 1, 1) := by decide +kernel
theorem dL_wind_137 : decode cL_wind 137 = .ok (.goto 4, 3) := by decide +kernel
theorem dL_wind_140 : decode cL_wind 140 = .ok (.iconst 0, 1) := by decide +kernel
theorem dL_wind_141 : decode cL_wind 141 = .ok (.ireturn, 1) := by decide +kernel
theorem dL_wind_142 : decode cL_wind 142 = .ok (.iload 5, 2) := by decide +kernel
theorem dL_wind_144 : decode cL_wind 144 = .ok (.iload_n 1, 1) := by decide +kernel
theorem dL_wind_145 : decode cL_wind 145 = .ok (.iconst 1, 1) := by decide +kernel
theorem dL_wind_146 : decode cL_wind 146 = .ok (.isub, 1) := by decide +kernel
theorem dL_wind_147 : decode cL_wind 147 = .ok (.if_icmp .lt 68, 3) := by decide +kernel
theorem dL_wind_150 : decode cL_wind 150 = .ok (.aload_n 0, 1) := by decide +kernel
theorem dL_wind_151 : decode cL_wind 151 = .ok (.bipush 6, 2) := by decide +kernel
theorem dL_wind_153 : decode cL_wind 153 = .ok (.invokevirtual 63, 3) := by decide +kernel
theorem dL_wind_156 : decode cL_wind 156 = .ok (.aload_n 0, 1) := by decide +kernel
theorem dL_wind_157 : decode cL_wind 157 = .ok (.bipush 14, 2) := by decide +kernel
theorem dL_wind_159 : decode cL_wind 159 = .ok (.invokevirtual 63, 3) := by decide +kernel
theorem dL_wind_162 : decode cL_wind 162 = .ok (.ifCond .ne 7, 3) := by decide +kernel
theorem dL_wind_165 : decode cL_wind 165 = .ok (.iconst 1, 1) := by decide +kernel
theorem dL_wind_166 : decode cL_wind 166 = .ok (.goto 9, 3) := by decide +kernel
theorem dL_wind_169 : decode cL_wind 169 = .ok (.aload_n 0, 1) := by decide +kernel
theorem dL_wind_170 : decode cL_wind 170 = .ok (.bipush 14, 2) := by decide +kernel
theorem dL_wind_172 : decode cL_wind 172 = .ok (.invokevirtual 63, 3) := by decide +kernel
theorem dL_wind_175 : decode cL_wind 175 = .ok (.if_icmp .ge 40, 3) := by decide +kernel
theorem dL_wind_178 : decode cL_wind 178 = .ok (.iload 5, 2) := by decide +kernel
theorem dL_wind_180 : decode cL_wind 180 = .ok (.ifCond .gt 17, 3) := by decide +kernel
theorem dL_wind_183 : decode cL_wind 183 = .ok (.iload_n 1, 1) := by decide +kernel
theorem dL_wind_184 : decode cL_wind 184 = .ok (.ifCond .gt 13, 3) := by decide +kernel
theorem dL_wind_187 : decode cL_wind 187 = .ok (.iload_n 3, 1) := by decide +kernel
theorem dL_wind_188 : decode cL_wind 188 = .ok (.aload_n 0, 1) := by decide +kernel
theorem dL_wind_189 : decode cL_wind 189 = .ok (.bipush 11, 2) := by decide +kernel
theorem dL_wind_191 : decode cL_wind 191 = .ok (.invokevirtual 63, 3) := by decide +kernel
theorem dL_wind_194 : decode cL_wind 194 = .ok (.if_icmp .ge 21, 3) := by decide +kernel
theorem dL_wind_197 : decode cL_wind 197 = .ok (.aload_n 0, 1) := by decide +kernel
theorem dL_wind_198 : decode cL_wind 198 = .ok (.bipush 6, 2) := by decide +kernel
theorem dL_wind_200 : decode cL_wind 200 = .ok (.invokevirtual 63, 3) := by decide +kernel
theorem dL_wind_203 : decode cL_wind 203 = .ok (.ifCond .eq 8, 3) := by decide +kernel
theorem dL_wind_206 : decode cL_wind 206 = .ok (.iload 5, 2) := by decide +kernel
theorem dL_wind_208 : decode cL_wind 208 = .ok (.ifCond .le 7, 3) := by decide +kernel
theorem dL_wind_211 : decode cL_wind 211 = .ok (.iconst 1, 1) := by decide +kernel
theorem dL_wind_212 : decode cL_wind 212 = .ok (.goto 4, 3) := by decide +kernel
theorem dL_wind_215 : decode cL_wind 215 = .ok (.iconst 0, 1) := by decide +kernel
theorem dL_wind_216 : decode cL_wind 216 = .ok (.ireturn, 1) := by decide +kernel
theorem dL_comesTrue_0 : decode cL_comesTrue 0 = .ok (.iconst 1, 1) := by decide +kernel
theorem dL_comesTrue_1 : decode cL_comesTrue 1 = .ok (.iload_n 1, 1) := by decide +kernel
theorem dL_comesTrue_2 : decode cL_comesTrue 2 = .ok (.bipush 40, 2) := by decide +kernel
theorem dL_comesTrue_4 : decode cL_comesTrue 4 = .ok (.invokestatic 22, 3) := by decide +kernel
theorem dL_comesTrue_7 : decode cL_comesTrue 7 = .ok (.iadd, 1) := by decide +kernel
theorem dL_comesTrue_8 : decode cL_comesTrue 8 = .ok (.istore_n 2, 1) := by decide +kernel
theorem dL_comesTrue_9 : decode cL_comesTrue 9 = .ok (.iload_n 1, 1) := by decide +kernel
theorem dL_comesTrue_10 : decode cL_comesTrue 10 = .ok (.bipush 6, 2) := by decide +kernel
theorem dL_comesTrue_12 : decode cL_comesTrue 12 = .ok (.ishr, 1) := by decide +kernel
theorem dL_comesTrue_13 : decode cL_comesTrue 13 = .ok (.iconst 3, 1) := by decide +kernel
theorem dL_comesTrue_14 : decode cL_comesTrue 14 = .ok (.invokestatic 22, 3) := by decide +kernel
theorem dL_comesTrue_17 : decode cL_comesTrue 17 = .ok (.istore_n 3, 1) := by decide +kernel
theorem dL_comesTrue_18 : decode cL_comesTrue 18 = .ok (.aload_n 0, 1) := by decide +kernel
theorem dL_comesTrue_19 : decode cL_comesTrue 19 = .ok (.iload_n 2, 1) := by decide +kernel
theorem dL_comesTrue_20 : decode cL_comesTrue 20 = .ok (.iload_n 3, 1) := by decide +kernel
theorem dL_comesTrue_21 : decode cL_comesTrue 21 = .ok (.iconst 0, 1) := by decide +kernel
theorem dL_comesTrue_22 : decode cL_comesTrue 22 = .ok (.invokevirtual 96, 3) := by decide +kernel
theorem dL_comesTrue_25 : decode cL_comesTrue 25 = .ok (.istore 4, 2) := by decide +kernel
theorem dL_comesTrue_27 : decode cL_comesTrue 27 = .ok (.aload_n 0, 1) := by decide +kernel
theorem dL_comesTrue_28 : decode cL_comesTrue 28 = .ok (.iload_n 2, 1) := by decide +kernel
theorem dL_comesTrue_29 : decode cL_comesTrue 29 = .ok (.iload_n 3, 1) := by decide +kernel
theorem dL_comesTrue_30 : decode cL_comesTrue 30 = .ok (.iconst 1, 1) := by decide +kernel
theorem dL_comesTrue_31 : decode cL_comesTrue 31 = .ok (.invokevirtual 96, 3) := by decide +kernel
theorem dL_comesTrue_34 : decode cL_comesTrue 34 = .ok (.istore 5, 2) := by decide +kernel
theorem dL_comesTrue_36 : decode cL_comesTrue 36 = .ok (.aload_n 0, 1) := by decide +kernel
theorem dL_comesTrue_37 : decode cL_comesTrue 37 = .ok (.iload_n 2, 1) := by decide +kernel
theorem dL_comesTrue_38 : decode cL_comesTrue 38 = .ok (.iload_n 3, 1) := by decide +kernel
theorem dL_comesTrue_39 : decode cL_comesTrue 39 = .ok (.iconst 2, 1) := by decide +kernel
theorem dL_comesTrue_40 : decode cL_comesTrue 40 = .ok (.invokevirtual 96, 3) := by decide +kernel
theorem dL_comesTrue_43 : decode cL_comesTrue 43 = .ok (.istore 6, 2) := by decide +kernel
theorem dL_comesTrue_45 : decode cL_comesTrue 45 = .ok (.aload_n 0, 1) := by decide +kernel
theorem dL_comesTrue_46 : decode cL_comesTrue 46 = .ok (.iload_n 2, 1) := by decide +kernel
theorem dL_comesTrue_47 : decode cL_comesTrue 47 = .ok (.iload_n 3, 1) := by decide +kernel
theorem dL_comesTrue_48 : decode cL_comesTrue 48 = .ok (.iconst 3, 1) := by decide +kernel
theorem dL_comesTrue_49 : decode cL_comesTrue 49 = .ok (.invokevirtual 96, 3) := by decide +kernel
theorem dL_comesTrue_52 : decode cL_comesTrue 52 = .ok (.istore 7, 2) := by decide +kernel
theorem dL_comesTrue_54 : decode cL_comesTrue 54 = .ok (.aload_n 0, 1) := by decide +kernel
theorem dL_comesTrue_55 : decode cL_comesTrue 55 = .ok (.iload_n 2, 1) := by decide +kernel
theorem dL_comesTrue_56 : decode cL_comesTrue 56 = .ok (.iload_n 3, 1) := by decide +kernel
theorem dL_comesTrue_57 : decode cL_comesTrue 57 = .ok (.iconst 4, 1) := by decide +kernel
theorem dL_comesTrue_58 : decode cL_comesTrue 58 = .ok (.invokevirtual 96, 3) := by decide +kernel
theorem dL_comesTrue_61 : decode cL_comesTrue 61 = .ok (.istore 8, 2) := by decide +kernel
theorem dL_comesTrue_63 : decode cL_comesTrue 63 = .ok (.aload_n 0, 1) := by decide +kernel
theorem dL_comesTrue_64 : decode cL_comesTrue 64 = .ok (.iconst 0, 1) := by decide +kernel
theorem dL_comesTrue_65 : decode cL_comesTrue 65 = .ok (.invokevirtual 99, 3) := by decide +kernel
theorem dL_comesTrue_68 : decode cL_comesTrue 68 = .ok (.istore 9, 2) := by decide +kernel
theorem dL_comesTrue_70 : decode cL_comesTrue 70 = .ok (.aload_n 0, 1) := by decide +kernel
theorem dL_comesTrue_71 : decode cL_comesTrue 71 = .ok (.iload_n 3, 1) := by decide +kernel
theorem dL_comesTrue_72 : decode cL_comesTrue 72 = .ok (.iconst 4, 1) := by decide +kernel
theorem dL_comesTrue_73 : decode cL_comesTrue 73 = .ok (.invokevirtual 84, 3) := by decide +kernel
theorem dL_comesTrue_76 : decode cL_comesTrue 76 = .ok (.istore 10, 2) := by decide +kernel
theorem dL_comesTrue_78 : decode cL_comesTrue 78 = .ok (.aload_n 0, 1) := by decide +kernel
theorem dL_comesTrue_79 : decode cL_comesTrue 79 = .ok (.bipush 7, 2) := by decide +kernel
theorem dL_comesTrue_81 : decode cL_comesTrue 81 = .ok (.invokevirtual 63, 3) := by decide +kernel
theorem dL_comesTrue_84 : decode cL_comesTrue 84 = .ok (.istore 11, 2) := by decide +kernel
theorem dL_comesTrue_86 : decode cL_comesTrue 86 = .ok (.iconst 0, 1) := by decide +kernel
theorem dL_comesTrue_87 : decode cL_comesTrue 87 = .ok (.istore 12, 2) := by decide +kernel
theorem dL_comesTrue_89 : decode cL_comesTrue 89 = .ok (.iconst 0, 1) := by decide +kernel
theorem dL_comesTrue_90 : decode cL_comesTrue 90 = .ok (.istore 13, 2) := by decide +kernel
