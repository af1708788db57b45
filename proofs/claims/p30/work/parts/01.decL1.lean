/-! the law's own methods: their instructions -/
theorem dL_areThings_391 : decode cL_areThings 391 = .ok (.iconst 0, 1) := by decide +kernel
theorem dL_areThings_392 : decode cL_areThings 392 = .ok (.iadd, 1) := by decide +kernel
theorem dL_areThings_393 : decode cL_areThings 393 = .ok (.istore 6, 2) := by decide +kernel
theorem dL_areThings_395 : decode cL_areThings 395 = .ok (.iload 9, 2) := by decide +kernel
theorem dL_areThings_397 : decode cL_areThings 397 = .ok (.ifCond .lt 47, 3) := by decide +kernel
theorem dL_areThings_400 : decode cL_areThings 400 = .ok (.iload 9, 2) := by decide +kernel
theorem dL_areThings_402 : decode cL_areThings 402 = .ok (.bipush 9, 2) := by decide +kernel
theorem dL_areThings_404 : decode cL_areThings 404 = .ok (.if_icmp .gt 40, 3) := by decide +kernel
theorem dL_areThings_407 : decode cL_areThings 407 = .ok (.aload_n 0, 1) := by decide +kernel
theorem dL_areThings_408 : decode cL_areThings 408 = .ok (.iload 8, 2) := by decide +kernel
theorem dL_areThings_410 : decode cL_areThings 410 = .ok (.iconst 4, 1) := by decide +kernel
theorem dL_areThings_411 : decode cL_areThings 411 = .ok (.invokevirtual 18, 3) := by decide +kernel
theorem dL_areThings_414 : decode cL_areThings 414 = .ok (.ifCond .lt 30, 3) := by decide +kernel
theorem dL_areThings_417 : decode cL_areThings 417 = .ok (.aload_n 0, 1) := by decide +kernel
theorem dL_areThings_418 : decode cL_areThings 418 = .ok (.iload 8, 2) := by decide +kernel
theorem dL_areThings_420 : decode cL_areThings 420 = .ok (.iconst 4, 1) := by decide +kernel
theorem dL_areThings_421 : decode cL_areThings 421 = .ok (.invokevirtual 18, 3) := by decide +kernel
theorem dL_areThings_424 : decode cL_areThings 424 = .ok (.iconst 1, 1) := by decide +kernel
theorem dL_areThings_425 : decode cL_areThings 425 = .ok (.if_icmp .gt 19, 3) := by decide +kernel
theorem dL_areThings_428 : decode cL_areThings 428 = .ok (.aload_n 0, 1) := by decide +kernel
theorem dL_areThings_429 : decode cL_areThings 429 = .ok (.iload 8, 2) := by decide +kernel
theorem dL_areThings_431 : decode cL_areThings 431 = .ok (.iconst 0, 1) := by decide +kernel
theorem dL_areThings_432 : decode cL_areThings 432 = .ok (.invokevirtual 30, 3) := by decide +kernel
theorem dL_areThings_435 : decode cL_areThings 435 = .ok (.iload 9, 2) := by decide +kernel
theorem dL_areThings_437 : decode cL_areThings 437 = .ok (.if_icmp .ne 7, 3) := by decide +kernel
theorem dL_areThings_440 : decode cL_areThings 440 = .ok (.iconst 1, 1) := by decide +kernel
theorem dL_areThings_441 : decode cL_areThings 441 = .ok (.goto 4, 3) := by decide +kernel
theorem dL_areThings_444 : decode cL_areThings 444 = .ok (.iconst 0, 1) := by decide +kernel
theorem dL_areThings_445 : decode cL_areThings 445 = .ok (.istore 7, 2) := by decide +kernel
theorem dL_areThings_447 : decode cL_areThings 447 = .ok (.iinc 8 1, 3) := by decide +kernel
theorem dL_areThings_450 : decode cL_areThings 450 = .ok (.goto (-104), 3) := by decide +kernel
theorem dL_areThings_453 : decode cL_areThings 453 = .ok (.iload 7, 2) := by decide +kernel
theorem dL_areThings_455 : decode cL_areThings 455 = .ok (.ifCond .eq 65, 3) := by decide +kernel
theorem dL_areThings_458 : decode cL_areThings 458 = .ok (.iload_n 1, 1) := by decide +kernel
theorem dL_areThings_459 : decode cL_areThings 459 = .ok (.aload_n 0, 1) := by decide +kernel
theorem dL_areThings_460 : decode cL_areThings 460 = .ok (.iconst 1, 1) := by decide +kernel
theorem dL_areThings_461 : decode cL_areThings 461 = .ok (.invokevirtual 33, 3) := by decide +kernel
theorem dL_areThings_464 : decode cL_areThings 464 = .ok (.if_icmp .ne 56, 3) := by decide +kernel
theorem dL_areThings_467 : decode cL_areThings 467 = .ok (.iload 4, 2) := by decide +kernel
theorem dL_areThings_469 : decode cL_areThings 469 = .ok (.aload_n 0, 1) := by decide +kernel
theorem dL_areThings_470 : decode cL_areThings 470 = .ok (.iconst 2, 1) := by decide +kernel
theorem dL_areThings_471 : decode cL_areThings 471 = .ok (.invokevirtual 33, 3) := by decide +kernel
theorem dL_areThings_474 : decode cL_areThings 474 = .ok (.if_icmp .ne 46, 3) := by decide +kernel
theorem dL_areThings_477 : decode cL_areThings 477 = .ok (.iload 5, 2) := by decide +kernel
theorem dL_areThings_479 : decode cL_areThings 479 = .ok (.aload_n 0, 1) := by decide +kernel
theorem dL_areThings_480 : decode cL_areThings 480 = .ok (.iconst 3, 1) := by decide +kernel
theorem dL_areThings_481 : decode cL_areThings 481 = .ok (.invokevirtual 33, 3) := by decide +kernel
theorem dL_areThings_484 : decode cL_areThings 484 = .ok (.if_icmp .ne 36, 3) := by decide +kernel
theorem dL_areThings_487 : decode cL_areThings 487 = .ok (.iload_n 2, 1) := by decide +kernel
theorem dL_areThings_488 : decode cL_areThings 488 = .ok (.aload_n 0, 1) := by decide +kernel
theorem dL_areThings_489 : decode cL_areThings 489 = .ok (.iconst 4, 1) := by decide +kernel
theorem dL_areThings_490 : decode cL_areThings 490 = .ok (.invokevirtual 33, 3) := by decide +kernel
theorem dL_areThings_493 : decode cL_areThings 493 = .ok (.if_icmp .ne 27, 3) := by decide +kernel
theorem dL_areThings_496 : decode cL_areThings 496 = .ok (.iload_n 3, 1) := by decide +kernel
theorem dL_areThings_497 : decode cL_areThings 497 = .ok (.aload_n 0, 1) := by decide +kernel
theorem dL_areThings_498 : decode cL_areThings 498 = .ok (.iconst 5, 1) := by decide +kernel
theorem dL_areThings_499 : decode cL_areThings 499 = .ok (.invokevirtual 33, 3) := by decide +kernel
theorem dL_areThings_502 : decode cL_areThings 502 = .ok (.if_icmp .ne 18, 3) := by decide +kernel
theorem dL_areThings_505 : decode cL_areThings 505 = .ok (.iload 6, 2) := by decide +kernel
theorem dL_areThings_507 : decode cL_areThings 507 = .ok (.aload_n 0, 1) := by decide +kernel
theorem dL_areThings_508 : decode cL_areThings 508 = .ok (.bipush 6, 2) := by decide +kernel
theorem dL_areThings_510 : decode cL_areThings 510 = .ok (.invokevirtual 33, 3) := by decide +kernel
theorem dL_areThings_513 : decode cL_areThings 513 = .ok (.if_icmp .ne 7, 3) := by decide +kernel
theorem dL_areThings_516 : decode cL_areThings 516 = .ok (.iconst 1, 1) := by decide +kernel
theorem dL_areThings_517 : decode cL_areThings 517 = .ok (.goto 4, 3) := by decide +kernel
theorem dL_areThings_520 : decode cL_areThings 520 = .ok (.iconst 0, 1) := by decide +kernel
theorem dL_areThings_521 : decode cL_areThings 521 = .ok (.ireturn, 1) := by decide +kernel
theorem dL_areReceivers_0 : decode cL_areReceivers 0 = .ok (.iconst 1, 1) := by decide +kernel
theorem dL_areReceivers_1 : decode cL_areReceivers 1 = .ok (.istore_n 1, 1) := by decide +kernel
theorem dL_areReceivers_2 : decode cL_areReceivers 2 = .ok (.iconst 0, 1) := by decide +kernel
theorem dL_areReceivers_3 : decode cL_areReceivers 3 = .ok (.istore_n 2, 1) := by decide +kernel
theorem dL_areReceivers_4 : decode cL_areReceivers 4 = .ok (.iload_n 2, 1) := by decide +kernel
theorem dL_areReceivers_5 : decode cL_areReceivers 5 = .ok (.bipush 6, 2) := by decide +kernel
theorem dL_areReceivers_7 : decode cL_areReceivers 7 = .ok (.if_icmp .ge 253, 3) := by decide +kernel
theorem dL_areReceivers_10 : decode cL_areReceivers 10 = .ok (.iload_n 1, 1) := by decide +kernel
theorem dL_areReceivers_11 : decode cL_areReceivers 11 = .ok (.ifCond .eq 249, 3) := by decide +kernel
theorem dL_areReceivers_14 : decode cL_areReceivers 14 = .ok (.aload_n 0, 1) := by decide +kernel
theorem dL_areReceivers_15 : decode cL_areReceivers 15 = .ok (.iload_n 2, 1) := by decide +kernel
theorem dL_areReceivers_16 : decode cL_areReceivers 16 = .ok (.iconst 0, 1) := by decide +kernel
theorem dL_areReceivers_17 : decode cL_areReceivers 17 = .ok (.invokevirtual 21, 3) := by decide +kernel
theorem dL_areReceivers_20 : decode cL_areReceivers 20 = .ok (.istore_n 3, 1) := by decide +kernel
theorem dL_areReceivers_21 : decode cL_areReceivers 21 = .ok (.aload_n 0, 1) := by decide +kernel
theorem dL_areReceivers_22 : decode cL_areReceivers 22 = .ok (.iload_n 2, 1) := by decide +kernel
theorem dL_areReceivers_23 : decode cL_areReceivers 23 = .ok (.iconst 1, 1) := by decide +kernel
theorem dL_areReceivers_24 : decode cL_areReceivers 24 = .ok (.invokevirtual 21, 3) := by decide +kernel
theorem dL_areReceivers_27 : decode cL_areReceivers 27 = .ok (.istore 4, 2) := by decide +kernel
theorem dL_areReceivers_29 : decode cL_areReceivers 29 = .ok (.aload_n 0, 1) := by decide +kernel
theorem dL_areReceivers_30 : decode cL_areReceivers 30 = .ok (.iload_n 2, 1) := by decide +kernel
theorem dL_areReceivers_31 : decode cL_areReceivers 31 = .ok (.iconst 2, 1) := by decide +kernel
theorem dL_areReceivers_32 : decode cL_areReceivers 32 = .ok (.invokevirtual 21, 3) := by decide +kernel
theorem dL_areReceivers_35 : decode cL_areReceivers 35 = .ok (.istore 5, 2) := by decide +kernel
theorem dL_areReceivers_37 : decode cL_areReceivers 37 = .ok (.aload_n 0, 1) := by decide +kernel
theorem dL_areReceivers_38 : decode cL_areReceivers 38 = .ok (.iload_n 2, 1) := by decide +kernel
theorem dL_areReceivers_39 : decode cL_areReceivers 39 = .ok (.iconst 3, 1) := by decide +kernel
theorem dL_areReceivers_40 : decode cL_areReceivers 40 = .ok (.invokevirtual 21, 3) := by decide +kernel
theorem dL_areReceivers_43 : decode cL_areReceivers 43 = .ok (.istore 6, 2) := by decide +kernel
theorem dL_areReceivers_45 : decode cL_areReceivers 45 = .ok (.iload_n 3, 1) := by decide +kernel
theorem dL_areReceivers_46 : decode cL_areReceivers 46 = .ok (.ifCond .lt 19, 3) := by decide +kernel
theorem dL_areReceivers_49 : decode cL_areReceivers 49 = .ok (.iload_n 3, 1) := by decide +kernel
theorem dL_areReceivers_50 : decode cL_areReceivers 50 = .ok (.bipush 9, 2) := by decide +kernel
theorem dL_areReceivers_52 : decode cL_areReceivers 52 = .ok (.if_icmp .gt 107, 3) := by decide +kernel
theorem dL_areReceivers_55 : decode cL_areReceivers 55 = .ok (.iload 4, 2) := by decide +kernel
theorem dL_areReceivers_57 : decode cL_areReceivers 57 = .ok (.bipush (-5), 2) := by decide +kernel
theorem dL_areReceivers_59 : decode cL_areReceivers 59 = .ok (.if_icmp .ne 100, 3) := by decide +kernel
theorem dL_areReceivers_62 : decode cL_areReceivers 62 = .ok (.goto 28, 3) := by decide +kernel
theorem dL_areReceivers_65 : decode cL_areReceivers 65 = .ok (.iload_n 3, 1) := by decide +kernel
theorem dL_areReceivers_66 : decode cL_areReceivers 66 = .ok (.bipush (-5), 2) := by decide +kernel
theorem dL_areReceivers_68 : decode cL_areReceivers 68 = .ok (.if_icmp .ne 91, 3) := by decide +kernel
theorem dL_areReceivers_71 : decode cL_areReceivers 71 = .ok (.iload 4, 2) := by decide +kernel
theorem dL_areReceivers_73 : decode cL_areReceivers 73 = .ok (.ifCond .lt 86, 3) := by decide +kernel
theorem dL_areReceivers_76 : decode cL_areReceivers 76 = .ok (.iload 4, 2) := by decide +kernel
theorem dL_areReceivers_78 : decode cL_areReceivers 78 = .ok (.bipush 15, 2) := by decide +kernel
theorem dL_areReceivers_80 : decode cL_areReceivers 80 = .ok (.if_icmp .gt 79, 3) := by decide +kernel
theorem dL_areReceivers_83 : decode cL_areReceivers 83 = .ok (.iload 4, 2) := by decide +kernel
theorem dL_areReceivers_85 : decode cL_areReceivers 85 = .ok (.bipush 14, 2) := by decide +kernel
theorem dL_areReceivers_87 : decode cL_areReceivers 87 = .ok (.if_icmp .eq 72, 3) := by decide +kernel
theorem dL_areReceivers_90 : decode cL_areReceivers 90 = .ok (.iload 5, 2) := by decide +kernel
theorem dL_areReceivers_92 : decode cL_areReceivers 92 = .ok (.ifCond .ge 20, 3) := by decide +kernel
theorem dL_areReceivers_95 : decode cL_areReceivers 95 = .ok (.iload 5, 2) := by decide +kernel
theorem dL_areReceivers_97 : decode cL_areReceivers 97 = .ok (.bipush (-5), 2) := by decide +kernel
theorem dL_areReceivers_99 : decode cL_areReceivers 99 = .ok (.if_icmp .ne 60, 3) := by decide +kernel
theorem dL_areReceivers_102 : decode cL_areReceivers 102 = .ok (.iload 6, 2) := by decide +kernel
theorem dL_areReceivers_104 : decode cL_areReceivers 104 = .ok (.bipush (-5), 2) := by decide +kernel
theorem dL_areReceivers_106 : decode cL_areReceivers 106 = .ok (.if_icmp .ne 53, 3) := by decide +kernel
theorem dL_areReceivers_109 : decode cL_areReceivers 109 = .ok (.goto 26, 3) := by decide +kernel
theorem dL_areReceivers_112 : decode cL_areReceivers 112 = .ok (.iload 5, 2) := by decide +kernel
theorem dL_areReceivers_114 : decode cL_areReceivers 114 = .ok (.bipush 32, 2) := by decide +kernel
theorem dL_areReceivers_116 : decode cL_areReceivers 116 = .ok (.if_icmp .ge 43, 3) := by decide +kernel
theorem dL_areReceivers_119 : decode cL_areReceivers 119 = .ok (.iload 6, 2) := by decide +kernel
theorem dL_areReceivers_121 : decode cL_areReceivers 121 = .ok (.iconst 1, 1) := by decide +kernel
theorem dL_areReceivers_122 : decode cL_areReceivers 122 = .ok (.if_icmp .lt 37, 3) := by decide +kernel
theorem dL_areReceivers_125 : decode cL_areReceivers 125 = .ok (.iload 6, 2) := by decide +kernel
theorem dL_areReceivers_127 : decode cL_areReceivers 127 = .ok (.aload_n 0, 1) := by decide +kernel
theorem dL_areReceivers_128 : decode cL_areReceivers 128 = .ok (.iconst 0, 1) := by decide +kernel
theorem dL_areReceivers_129 : decode cL_areReceivers 129 = .ok (.invokevirtual 33, 3) := by decide +kernel
theorem dL_areReceivers_132 : decode cL_areReceivers 132 = .ok (.if_icmp .gt 27, 3) := by decide +kernel
theorem dL_areReceivers_135 : decode cL_areReceivers 135 = .ok (.aload_n 0, 1) := by decide +kernel
theorem dL_areReceivers_136 : decode cL_areReceivers 136 = .ok (.iload_n 2, 1) := by decide +kernel
theorem dL_areReceivers_137 : decode cL_areReceivers 137 = .ok (.iconst 4, 1) := by decide +kernel
theorem dL_areReceivers_138 : decode cL_areReceivers 138 = .ok (.invokevirtual 21, 3) := by decide +kernel
theorem dL_areReceivers_141 : decode cL_areReceivers 141 = .ok (.ifCond .lt 18, 3) := by decide +kernel
theorem dL_areReceivers_144 : decode cL_areReceivers 144 = .ok (.aload_n 0, 1) := by decide +kernel
theorem dL_areReceivers_145 : decode cL_areReceivers 145 = .ok (.iload_n 2, 1) := by decide +kernel
theorem dL_areReceivers_146 : decode cL_areReceivers 146 = .ok (.iconst 4, 1) := by decide +kernel
theorem dL_areReceivers_147 : decode cL_areReceivers 147 = .ok (.invokevirtual 21, 3) := by decide +kernel
theorem dL_areReceivers_150 : decode cL_areReceivers 150 = .ok (.bipush 15, 2) := by decide +kernel
theorem dL_areReceivers_152 : decode cL_areReceivers 152 = .ok (.if_icmp .gt 7, 3) := by decide +kernel
theorem dL_areReceivers_155 : decode cL_areReceivers 155 = .ok (.iconst 1, 1) := by decide +kernel
theorem dL_areReceivers_156 : decode cL_areReceivers 156 = .ok (.goto 4, 3) := by decide +kernel
theorem dL_areReceivers_159 : decode cL_areReceivers 159 = .ok (.iconst 0, 1) := by decide +kernel
theorem dL_areReceivers_160 : decode cL_areReceivers 160 = .ok (.istore_n 1, 1) := by decide +kernel
theorem dL_areReceivers_161 : decode cL_areReceivers 161 = .ok (.iconst 0, 1) := by decide +kernel
theorem dL_areReceivers_162 : decode cL_areReceivers 162 = .ok (.istore 7, 2) := by decide +kernel
theorem dL_areReceivers_164 : decode cL_areReceivers 164 = .ok (.iload 7, 2) := by decide +kernel
theorem dL_areReceivers_166 : decode cL_areReceivers 166 = .ok (.bipush 6, 2) := by decide +kernel
theorem dL_areReceivers_168 : decode cL_areReceivers 168 = .ok (.if_icmp .ge 86, 3) := by decide +kernel
theorem dL_areReceivers_171 : decode cL_areReceivers 171 = .ok (.iload_n 1, 1) := by decide +kernel
theorem dL_areReceivers_172 : decode cL_areReceivers 172 = .ok (.ifCond .eq 82, 3) := by decide +kernel
theorem dL_areReceivers_175 : decode cL_areReceivers 175 = .ok (.iload_n 2, 1) := by decide +kernel
theorem dL_areReceivers_176 : decode cL_areReceivers 176 = .ok (.iconst 3, 1) := by decide +kernel
theorem dL_areReceivers_177 : decode cL_areReceivers 177 = .ok (.irem, 1) := by decide +kernel
theorem dL_areReceivers_178 : decode cL_areReceivers 178 = .ok (.iload 7, 2) := by decide +kernel
theorem dL_areReceivers_180 : decode cL_areReceivers 180 = .ok (.iconst 3, 1) := by decide +kernel
theorem dL_areReceivers_181 : decode cL_areReceivers 181 = .ok (.irem, 1) := by decide +kernel
theorem dL_areReceivers_182 : decode cL_areReceivers 182 = .ok (.if_icmp .ne 7, 3) := by decide +kernel
theorem dL_areReceivers_185 : decode cL_areReceivers 185 = .ok (.iconst 0, 1) := by decide +kernel
theorem dL_areReceivers_186 : decode cL_areReceivers 186 = .ok (.goto 9, 3) := by decide +kernel
theorem dL_areReceivers_189 : decode cL_areReceivers 189 = .ok (.aload_n 0, 1) := by decide +kernel
theorem dL_areReceivers_190 : decode cL_areReceivers 190 = .ok (.bipush 7, 2) := by decide +kernel
theorem dL_areReceivers_192 : decode cL_areReceivers 192 = .ok (.invokevirtual 33, 3) := by decide +kernel
theorem dL_areReceivers_195 : decode cL_areReceivers 195 = .ok (.iload_n 2, 1) := by decide +kernel
theorem dL_areReceivers_196 : decode cL_areReceivers 196 = .ok (.iconst 3, 1) := by decide +kernel
theorem dL_areReceivers_197 : decode cL_areReceivers 197 = .ok (.idiv, 1) := by decide +kernel
theorem dL_areReceivers_198 : decode cL_areReceivers 198 = .ok (.iload 7, 2) := by decide +kernel
theorem dL_areReceivers_200 : decode cL_areReceivers 200 = .ok (.iconst 3, 1) := by decide +kernel
theorem dL_areReceivers_201 : decode cL_areReceivers 201 = .ok (.idiv, 1) := by decide +kernel
theorem dL_areReceivers_202 : decode cL_areReceivers 202 = .ok (.if_icmp .ne 7, 3) := by decide +kernel
theorem dL_areReceivers_205 : decode cL_areReceivers 205 = .ok (.iconst 0, 1) := by decide +kernel
theorem dL_areReceivers_206 : decode cL_areReceivers 206 = .ok (.goto 9, 3) := by decide +kernel
theorem dL_areReceivers_209 : decode cL_areReceivers 209 = .ok (.aload_n 0, 1) := by decide +kernel
theorem dL_areReceivers_210 : decode cL_areReceivers 210 = .ok (.bipush 8, 2) := by decide +kernel
theorem dL_areReceivers_212 : decode cL_areReceivers 212 = .ok (.invokevirtual 33, 3) := by decide +kernel
theorem dL_areReceivers_215 : decode cL_areReceivers 215 = .ok (.iadd, 1) := by decide +kernel
theorem dL_areReceivers_216 : decode cL_areReceivers 216 = .ok (.istore 8, 2) := by decide +kernel
theorem dL_areReceivers_218 : decode cL_areReceivers 218 = .ok (.aload_n 0, 1) := by decide +kernel
theorem dL_areReceivers_219 : decode cL_areReceivers 219 = .ok (.iload_n 2, 1) := by decide +kernel
theorem dL_areReceivers_220 : decode cL_areReceivers 220 = .ok (.iload 7, 2) := by decide +kernel
theorem dL_areReceivers_222 : decode cL_areReceivers 222 = .ok (.invokevirtual 37, 3) := by decide +kernel
theorem dL_areReceivers_225 : decode cL_areReceivers 225 = .ok (.iload 8, 2) := by decide +kernel
theorem dL_areReceivers_227 : decode cL_areReceivers 227 = .ok (.if_icmp .ne 19, 3) := by decide +kernel
theorem dL_areReceivers_230 : decode cL_areReceivers 230 = .ok (.aload_n 0, 1) := by decide +kernel
theorem dL_areReceivers_231 : decode cL_areReceivers 231 = .ok (.iload 7, 2) := by decide +kernel
theorem dL_areReceivers_233 : decode cL_areReceivers 233 = .ok (.iload_n 2, 1) := by decide +kernel
theorem dL_areReceivers_234 : decode cL_areReceivers 234 = .ok (.invokevirtual 37, 3) := by decide +kernel
theorem dL_areReceivers_237 : decode cL_areReceivers 237 = .ok (.iload 8, 2) := by decide +kernel
theorem dL_areReceivers_239 : decode cL_areReceivers 239 = .ok (.if_icmp .ne 7, 3) := by decide +kernel
theorem dL_areReceivers_242 : decode cL_areReceivers 242 = .ok (.iconst 1, 1) := by decide +kernel
theorem dL_areReceivers_243 : decode cL_areReceivers 243 = .ok (.goto 4, 3) := by decide +kernel
theorem dL_areReceivers_246 : decode cL_areReceivers 246 = .ok (.iconst 0, 1) := by decide +kernel
theorem dL_areReceivers_247 : decode cL_areReceivers 247 = .ok (.istore_n 1, 1) := by decide +kernel
theorem dL_areReceivers_248 : decode cL_areReceivers 248 = .ok (.iinc 7 1, 3) := by decide +kernel
theorem dL_areReceivers_251 : decode cL_areReceivers 251 = .ok (.goto (-87), 3) := by decide +kernel
theorem dL_areReceivers_254 : decode cL_areReceivers 254 = .ok (.iinc 2 1, 3) := by decide +kernel
theorem dL_areReceivers_257 : decode cL_areReceivers 257 = .ok (.goto (-253), 3) := by decide +kernel
theorem dL_areReceivers_260 : decode cL_areReceivers 260 = .ok (.aload_n 0, 1) := by decide +kernel
theorem dL_areReceivers_261 : decode cL_areReceivers 261 = .ok (.iconst 2, 1) := by decide +kernel
theorem dL_areReceivers_262 : decode cL_areReceivers 262 = .ok (.invokevirtual 40, 3) := by decide +kernel
theorem dL_areReceivers_265 : decode cL_areReceivers 265 = .ok (.aload_n 0, 1) := by decide +kernel
theorem dL_areReceivers_266 : decode cL_areReceivers 266 = .ok (.iconst 3, 1) := by decide +kernel
theorem dL_areReceivers_267 : decode cL_areReceivers 267 = .ok (.invokevirtual 40, 3) := by decide +kernel
theorem dL_areReceivers_270 : decode cL_areReceivers 270 = .ok (.iadd, 1) := by decide +kernel
theorem dL_areReceivers_271 : decode cL_areReceivers 271 = .ok (.aload_n 0, 1) := by decide +kernel
theorem dL_areReceivers_272 : decode cL_areReceivers 272 = .ok (.iconst 4, 1) := by decide +kernel
theorem dL_areReceivers_273 : decode cL_areReceivers 273 = .ok (.invokevirtual 40, 3) := by decide +kernel
theorem dL_areReceivers_276 : decode cL_areReceivers 276 = .ok (.iadd, 1) := by decide +kernel
theorem dL_areReceivers_277 : decode cL_areReceivers 277 = .ok (.istore_n 2, 1) := by decide +kernel
theorem dL_areReceivers_278 : decode cL_areReceivers 278 = .ok (.iload_n 2, 1) := by decide +kernel
theorem dL_areReceivers_279 : decode cL_areReceivers 279 = .ok (.ifCond .ne 7, 3) := by decide +kernel
theorem dL_areReceivers_282 : decode cL_areReceivers 282 = .ok (.fconst 0, 1) := by decide +kernel
theorem dL_areReceivers_283 : decode cL_areReceivers 283 = .ok (.goto 12, 3) := by decide +kernel
