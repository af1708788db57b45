/-! the law's own methods: their instructions -/
theorem dL_cell_0 : decode cL_cell 0 = .ok (.iload_n 1, 1) := by decide +kernel
theorem dL_cell_1 : decode cL_cell 1 = .ok (.aload_n 0, 1) := by decide +kernel
theorem dL_cell_2 : decode cL_cell 2 = .ok (.arraylength, 1) := by decide +kernel
theorem dL_cell_3 : decode cL_cell 3 = .ok (.if_icmp .ge 9, 3) := by decide +kernel
theorem dL_cell_6 : decode cL_cell 6 = .ok (.aload_n 0, 1) := by decide +kernel
theorem dL_cell_7 : decode cL_cell 7 = .ok (.iload_n 1, 1) := by decide +kernel
theorem dL_cell_8 : decode cL_cell 8 = .ok (.iaload, 1) := by decide +kernel
theorem dL_cell_9 : decode cL_cell 9 = .ok (.goto 11, 3) := by decide +kernel
theorem dL_cell_12 : decode cL_cell 12 = .ok (.ldc 7, 2) := by decide +kernel
theorem dL_cell_14 : decode cL_cell 14 = .ok (.iload_n 1, 1) := by decide +kernel
theorem dL_cell_15 : decode cL_cell 15 = .ok (.imul, 1) := by decide +kernel
theorem dL_cell_16 : decode cL_cell 16 = .ok (.sipush 8447, 3) := by decide +kernel
theorem dL_cell_19 : decode cL_cell 19 = .ok (.iadd, 1) := by decide +kernel
theorem dL_cell_20 : decode cL_cell 20 = .ok (.ldc 8, 2) := by decide +kernel
theorem dL_cell_22 : decode cL_cell 22 = .ok (.iand, 1) := by decide +kernel
theorem dL_cell_23 : decode cL_cell 23 = .ok (.ireturn, 1) := by decide +kernel
theorem dL_areThings_0 : decode cL_areThings 0 = .ok (.iconst 0, 1) := by decide +kernel
theorem dL_areThings_1 : decode cL_areThings 1 = .ok (.istore_n 1, 1) := by decide +kernel
theorem dL_areThings_2 : decode cL_areThings 2 = .ok (.iconst 0, 1) := by decide +kernel
theorem dL_areThings_3 : decode cL_areThings 3 = .ok (.istore_n 2, 1) := by decide +kernel
theorem dL_areThings_4 : decode cL_areThings 4 = .ok (.iconst 0, 1) := by decide +kernel
theorem dL_areThings_5 : decode cL_areThings 5 = .ok (.istore_n 3, 1) := by decide +kernel
theorem dL_areThings_6 : decode cL_areThings 6 = .ok (.iconst 0, 1) := by decide +kernel
theorem dL_areThings_7 : decode cL_areThings 7 = .ok (.istore 4, 2) := by decide +kernel
theorem dL_areThings_9 : decode cL_areThings 9 = .ok (.iconst 0, 1) := by decide +kernel
theorem dL_areThings_10 : decode cL_areThings 10 = .ok (.istore 5, 2) := by decide +kernel
theorem dL_areThings_12 : decode cL_areThings 12 = .ok (.iconst 0, 1) := by decide +kernel
theorem dL_areThings_13 : decode cL_areThings 13 = .ok (.istore 6, 2) := by decide +kernel
theorem dL_areThings_15 : decode cL_areThings 15 = .ok (.aload_n 0, 1) := by decide +kernel
theorem dL_areThings_16 : decode cL_areThings 16 = .ok (.iconst 5, 1) := by decide +kernel
theorem dL_areThings_17 : decode cL_areThings 17 = .ok (.iconst 0, 1) := by decide +kernel
theorem dL_areThings_18 : decode cL_areThings 18 = .ok (.invokevirtual 9, 3) := by decide +kernel
theorem dL_areThings_21 : decode cL_areThings 21 = .ok (.iconst (-1), 1) := by decide +kernel
theorem dL_areThings_22 : decode cL_areThings 22 = .ok (.if_icmp .ne 39, 3) := by decide +kernel
theorem dL_areThings_25 : decode cL_areThings 25 = .ok (.aload_n 0, 1) := by decide +kernel
theorem dL_areThings_26 : decode cL_areThings 26 = .ok (.iconst 4, 1) := by decide +kernel
theorem dL_areThings_27 : decode cL_areThings 27 = .ok (.iconst 0, 1) := by decide +kernel
theorem dL_areThings_28 : decode cL_areThings 28 = .ok (.invokevirtual 15, 3) := by decide +kernel
theorem dL_areThings_31 : decode cL_areThings 31 = .ok (.iconst (-1), 1) := by decide +kernel
theorem dL_areThings_32 : decode cL_areThings 32 = .ok (.if_icmp .ne 29, 3) := by decide +kernel
theorem dL_areThings_35 : decode cL_areThings 35 = .ok (.aload_n 0, 1) := by decide +kernel
theorem dL_areThings_36 : decode cL_areThings 36 = .ok (.bipush 8, 2) := by decide +kernel
theorem dL_areThings_38 : decode cL_areThings 38 = .ok (.iconst 0, 1) := by decide +kernel
theorem dL_areThings_39 : decode cL_areThings 39 = .ok (.invokevirtual 18, 3) := by decide +kernel
theorem dL_areThings_42 : decode cL_areThings 42 = .ok (.iconst (-1), 1) := by decide +kernel
theorem dL_areThings_43 : decode cL_areThings 43 = .ok (.if_icmp .ne 18, 3) := by decide +kernel
theorem dL_areThings_46 : decode cL_areThings 46 = .ok (.aload_n 0, 1) := by decide +kernel
theorem dL_areThings_47 : decode cL_areThings 47 = .ok (.bipush 6, 2) := by decide +kernel
theorem dL_areThings_49 : decode cL_areThings 49 = .ok (.iconst 0, 1) := by decide +kernel
theorem dL_areThings_50 : decode cL_areThings 50 = .ok (.invokevirtual 21, 3) := by decide +kernel
theorem dL_areThings_53 : decode cL_areThings 53 = .ok (.iconst (-1), 1) := by decide +kernel
theorem dL_areThings_54 : decode cL_areThings 54 = .ok (.if_icmp .ne 7, 3) := by decide +kernel
theorem dL_areThings_57 : decode cL_areThings 57 = .ok (.iconst 1, 1) := by decide +kernel
theorem dL_areThings_58 : decode cL_areThings 58 = .ok (.goto 4, 3) := by decide +kernel
theorem dL_areThings_61 : decode cL_areThings 61 = .ok (.iconst 0, 1) := by decide +kernel
theorem dL_areThings_62 : decode cL_areThings 62 = .ok (.istore 7, 2) := by decide +kernel
theorem dL_areThings_64 : decode cL_areThings 64 = .ok (.iconst 0, 1) := by decide +kernel
theorem dL_areThings_65 : decode cL_areThings 65 = .ok (.istore 8, 2) := by decide +kernel
theorem dL_areThings_67 : decode cL_areThings 67 = .ok (.iload 8, 2) := by decide +kernel
theorem dL_areThings_69 : decode cL_areThings 69 = .ok (.iconst 5, 1) := by decide +kernel
theorem dL_areThings_70 : decode cL_areThings 70 = .ok (.if_icmp .ge 238, 3) := by decide +kernel
theorem dL_areThings_73 : decode cL_areThings 73 = .ok (.iload 7, 2) := by decide +kernel
theorem dL_areThings_75 : decode cL_areThings 75 = .ok (.ifCond .eq 233, 3) := by decide +kernel
theorem dL_areThings_78 : decode cL_areThings 78 = .ok (.aload_n 0, 1) := by decide +kernel
theorem dL_areThings_79 : decode cL_areThings 79 = .ok (.iload 8, 2) := by decide +kernel
theorem dL_areThings_81 : decode cL_areThings 81 = .ok (.iconst 0, 1) := by decide +kernel
theorem dL_areThings_82 : decode cL_areThings 82 = .ok (.invokevirtual 9, 3) := by decide +kernel
theorem dL_areThings_85 : decode cL_areThings 85 = .ok (.ifCond .lt 217, 3) := by decide +kernel
theorem dL_areThings_88 : decode cL_areThings 88 = .ok (.aload_n 0, 1) := by decide +kernel
theorem dL_areThings_89 : decode cL_areThings 89 = .ok (.iload 8, 2) := by decide +kernel
theorem dL_areThings_91 : decode cL_areThings 91 = .ok (.iconst 2, 1) := by decide +kernel
theorem dL_areThings_92 : decode cL_areThings 92 = .ok (.invokevirtual 9, 3) := by decide +kernel
theorem dL_areThings_95 : decode cL_areThings 95 = .ok (.istore 9, 2) := by decide +kernel
theorem dL_areThings_97 : decode cL_areThings 97 = .ok (.aload_n 0, 1) := by decide +kernel
theorem dL_areThings_98 : decode cL_areThings 98 = .ok (.iload 8, 2) := by decide +kernel
theorem dL_areThings_100 : decode cL_areThings 100 = .ok (.iconst 3, 1) := by decide +kernel
theorem dL_areThings_101 : decode cL_areThings 101 = .ok (.invokevirtual 9, 3) := by decide +kernel
theorem dL_areThings_104 : decode cL_areThings 104 = .ok (.istore 10, 2) := by decide +kernel
theorem dL_areThings_106 : decode cL_areThings 106 = .ok (.aload_n 0, 1) := by decide +kernel
theorem dL_areThings_107 : decode cL_areThings 107 = .ok (.iload 8, 2) := by decide +kernel
theorem dL_areThings_109 : decode cL_areThings 109 = .ok (.iconst 4, 1) := by decide +kernel
theorem dL_areThings_110 : decode cL_areThings 110 = .ok (.invokevirtual 9, 3) := by decide +kernel
theorem dL_areThings_113 : decode cL_areThings 113 = .ok (.istore 11, 2) := by decide +kernel
theorem dL_areThings_115 : decode cL_areThings 115 = .ok (.aload_n 0, 1) := by decide +kernel
theorem dL_areThings_116 : decode cL_areThings 116 = .ok (.iload 8, 2) := by decide +kernel
theorem dL_areThings_118 : decode cL_areThings 118 = .ok (.bipush 6, 2) := by decide +kernel
theorem dL_areThings_120 : decode cL_areThings 120 = .ok (.invokevirtual 9, 3) := by decide +kernel
theorem dL_areThings_123 : decode cL_areThings 123 = .ok (.istore 12, 2) := by decide +kernel
theorem dL_areThings_125 : decode cL_areThings 125 = .ok (.iinc 1 1, 3) := by decide +kernel
theorem dL_areThings_128 : decode cL_areThings 128 = .ok (.iload_n 2, 1) := by decide +kernel
theorem dL_areThings_129 : decode cL_areThings 129 = .ok (.iload 10, 2) := by decide +kernel
theorem dL_areThings_131 : decode cL_areThings 131 = .ok (.ifCond .lt 7, 3) := by decide +kernel
theorem dL_areThings_134 : decode cL_areThings 134 = .ok (.iconst 1, 1) := by decide +kernel
theorem dL_areThings_135 : decode cL_areThings 135 = .ok (.goto 4, 3) := by decide +kernel
theorem dL_areThings_138 : decode cL_areThings 138 = .ok (.iconst 0, 1) := by decide +kernel
theorem dL_areThings_139 : decode cL_areThings 139 = .ok (.iadd, 1) := by decide +kernel
theorem dL_areThings_140 : decode cL_areThings 140 = .ok (.istore_n 2, 1) := by decide +kernel
theorem dL_areThings_141 : decode cL_areThings 141 = .ok (.iload_n 3, 1) := by decide +kernel
theorem dL_areThings_142 : decode cL_areThings 142 = .ok (.iload 9, 2) := by decide +kernel
theorem dL_areThings_144 : decode cL_areThings 144 = .ok (.iadd, 1) := by decide +kernel
theorem dL_areThings_145 : decode cL_areThings 145 = .ok (.istore_n 3, 1) := by decide +kernel
theorem dL_areThings_146 : decode cL_areThings 146 = .ok (.iload 9, 2) := by decide +kernel
theorem dL_areThings_148 : decode cL_areThings 148 = .ok (.bipush 6, 2) := by decide +kernel
theorem dL_areThings_150 : decode cL_areThings 150 = .ok (.if_icmp .gt 149, 3) := by decide +kernel
theorem dL_areThings_153 : decode cL_areThings 153 = .ok (.aload_n 0, 1) := by decide +kernel
theorem dL_areThings_154 : decode cL_areThings 154 = .ok (.iload 8, 2) := by decide +kernel
theorem dL_areThings_156 : decode cL_areThings 156 = .ok (.iload 9, 2) := by decide +kernel
theorem dL_areThings_158 : decode cL_areThings 158 = .ok (.invokevirtual 24, 3) := by decide +kernel
theorem dL_areThings_161 : decode cL_areThings 161 = .ok (.bipush (-5), 2) := by decide +kernel
theorem dL_areThings_163 : decode cL_areThings 163 = .ok (.if_icmp .ne 136, 3) := by decide +kernel
theorem dL_areThings_166 : decode cL_areThings 166 = .ok (.iload 9, 2) := by decide +kernel
theorem dL_areThings_168 : decode cL_areThings 168 = .ok (.ifCond .eq 16, 3) := by decide +kernel
theorem dL_areThings_171 : decode cL_areThings 171 = .ok (.aload_n 0, 1) := by decide +kernel
theorem dL_areThings_172 : decode cL_areThings 172 = .ok (.iload 8, 2) := by decide +kernel
theorem dL_areThings_174 : decode cL_areThings 174 = .ok (.iload 9, 2) := by decide +kernel
theorem dL_areThings_176 : decode cL_areThings 176 = .ok (.iconst 1, 1) := by decide +kernel
theorem dL_areThings_177 : decode cL_areThings 177 = .ok (.isub, 1) := by decide +kernel
theorem dL_areThings_178 : decode cL_areThings 178 = .ok (.invokevirtual 24, 3) := by decide +kernel
theorem dL_areThings_181 : decode cL_areThings 181 = .ok (.ifCond .lt 118, 3) := by decide +kernel
theorem dL_areThings_184 : decode cL_areThings 184 = .ok (.iload 10, 2) := by decide +kernel
theorem dL_areThings_186 : decode cL_areThings 186 = .ok (.ifCond .lt 7, 3) := by decide +kernel
theorem dL_areThings_189 : decode cL_areThings 189 = .ok (.iconst 1, 1) := by decide +kernel
theorem dL_areThings_190 : decode cL_areThings 190 = .ok (.goto 4, 3) := by decide +kernel
theorem dL_areThings_193 : decode cL_areThings 193 = .ok (.iconst 0, 1) := by decide +kernel
theorem dL_areThings_194 : decode cL_areThings 194 = .ok (.iload 11, 2) := by decide +kernel
theorem dL_areThings_196 : decode cL_areThings 196 = .ok (.ifCond .lt 7, 3) := by decide +kernel
theorem dL_areThings_199 : decode cL_areThings 199 = .ok (.iconst 1, 1) := by decide +kernel
theorem dL_areThings_200 : decode cL_areThings 200 = .ok (.goto 4, 3) := by decide +kernel
theorem dL_areThings_203 : decode cL_areThings 203 = .ok (.iconst 0, 1) := by decide +kernel
theorem dL_areThings_204 : decode cL_areThings 204 = .ok (.if_icmp .ne 95, 3) := by decide +kernel
theorem dL_areThings_207 : decode cL_areThings 207 = .ok (.iload 10, 2) := by decide +kernel
theorem dL_areThings_209 : decode cL_areThings 209 = .ok (.bipush 16, 2) := by decide +kernel
theorem dL_areThings_211 : decode cL_areThings 211 = .ok (.if_icmp .gt 88, 3) := by decide +kernel
theorem dL_areThings_214 : decode cL_areThings 214 = .ok (.iload 11, 2) := by decide +kernel
theorem dL_areThings_216 : decode cL_areThings 216 = .ok (.iconst 2, 1) := by decide +kernel
theorem dL_areThings_217 : decode cL_areThings 217 = .ok (.if_icmp .gt 82, 3) := by decide +kernel
theorem dL_areThings_220 : decode cL_areThings 220 = .ok (.iload 10, 2) := by decide +kernel
theorem dL_areThings_222 : decode cL_areThings 222 = .ok (.ifCond .ge 13, 3) := by decide +kernel
theorem dL_areThings_225 : decode cL_areThings 225 = .ok (.iload 12, 2) := by decide +kernel
theorem dL_areThings_227 : decode cL_areThings 227 = .ok (.bipush (-5), 2) := by decide +kernel
theorem dL_areThings_229 : decode cL_areThings 229 = .ok (.if_icmp .ne 70, 3) := by decide +kernel
theorem dL_areThings_232 : decode cL_areThings 232 = .ok (.goto 47, 3) := by decide +kernel
theorem dL_areThings_235 : decode cL_areThings 235 = .ok (.iload 9, 2) := by decide +kernel
theorem dL_areThings_237 : decode cL_areThings 237 = .ok (.ifCond .le 62, 3) := by decide +kernel
theorem dL_areThings_240 : decode cL_areThings 240 = .ok (.aload_n 0, 1) := by decide +kernel
theorem dL_areThings_241 : decode cL_areThings 241 = .ok (.iload 8, 2) := by decide +kernel
theorem dL_areThings_243 : decode cL_areThings 243 = .ok (.iconst 5, 1) := by decide +kernel
theorem dL_areThings_244 : decode cL_areThings 244 = .ok (.invokevirtual 9, 3) := by decide +kernel
theorem dL_areThings_247 : decode cL_areThings 247 = .ok (.ifCond .ne 52, 3) := by decide +kernel
theorem dL_areThings_250 : decode cL_areThings 250 = .ok (.iload 12, 2) := by decide +kernel
theorem dL_areThings_252 : decode cL_areThings 252 = .ok (.iload 10, 2) := by decide +kernel
theorem dL_areThings_254 : decode cL_areThings 254 = .ok (.bipush 13, 2) := by decide +kernel
theorem dL_areThings_256 : decode cL_areThings 256 = .ok (.if_icmp .le 7, 3) := by decide +kernel
theorem dL_areThings_259 : decode cL_areThings 259 = .ok (.iconst 0, 1) := by decide +kernel
theorem dL_areThings_260 : decode cL_areThings 260 = .ok (.goto 16, 3) := by decide +kernel
theorem dL_areThings_263 : decode cL_areThings 263 = .ok (.aload_n 0, 1) := by decide +kernel
theorem dL_areThings_264 : decode cL_areThings 264 = .ok (.aload_n 0, 1) := by decide +kernel
theorem dL_areThings_265 : decode cL_areThings 265 = .ok (.iload 8, 2) := by decide +kernel
theorem dL_areThings_267 : decode cL_areThings 267 = .ok (.iconst 0, 1) := by decide +kernel
theorem dL_areThings_268 : decode cL_areThings 268 = .ok (.invokevirtual 24, 3) := by decide +kernel
theorem dL_areThings_271 : decode cL_areThings 271 = .ok (.iload 10, 2) := by decide +kernel
theorem dL_areThings_273 : decode cL_areThings 273 = .ok (.invokevirtual 27, 3) := by decide +kernel
theorem dL_areThings_276 : decode cL_areThings 276 = .ok (.if_icmp .ne 23, 3) := by decide +kernel
theorem dL_areThings_279 : decode cL_areThings 279 = .ok (.aload_n 0, 1) := by decide +kernel
theorem dL_areThings_280 : decode cL_areThings 280 = .ok (.iload 8, 2) := by decide +kernel
theorem dL_areThings_282 : decode cL_areThings 282 = .ok (.iconst 5, 1) := by decide +kernel
theorem dL_areThings_283 : decode cL_areThings 283 = .ok (.invokevirtual 9, 3) := by decide +kernel
theorem dL_areThings_286 : decode cL_areThings 286 = .ok (.iconst 3, 1) := by decide +kernel
theorem dL_areThings_287 : decode cL_areThings 287 = .ok (.iconst 2, 1) := by decide +kernel
theorem dL_areThings_288 : decode cL_areThings 288 = .ok (.iload 8, 2) := by decide +kernel
theorem dL_areThings_290 : decode cL_areThings 290 = .ok (.imul, 1) := by decide +kernel
theorem dL_areThings_291 : decode cL_areThings 291 = .ok (.iadd, 1) := by decide +kernel
theorem dL_areThings_292 : decode cL_areThings 292 = .ok (.if_icmp .gt 7, 3) := by decide +kernel
theorem dL_areThings_295 : decode cL_areThings 295 = .ok (.iconst 1, 1) := by decide +kernel
theorem dL_areThings_296 : decode cL_areThings 296 = .ok (.goto 4, 3) := by decide +kernel
theorem dL_areThings_299 : decode cL_areThings 299 = .ok (.iconst 0, 1) := by decide +kernel
theorem dL_areThings_300 : decode cL_areThings 300 = .ok (.istore 7, 2) := by decide +kernel
theorem dL_areThings_302 : decode cL_areThings 302 = .ok (.iinc 8 1, 3) := by decide +kernel
theorem dL_areThings_305 : decode cL_areThings 305 = .ok (.goto (-238), 3) := by decide +kernel
theorem dL_areThings_308 : decode cL_areThings 308 = .ok (.iconst 0, 1) := by decide +kernel
theorem dL_areThings_309 : decode cL_areThings 309 = .ok (.istore 8, 2) := by decide +kernel
theorem dL_areThings_311 : decode cL_areThings 311 = .ok (.iload 8, 2) := by decide +kernel
theorem dL_areThings_313 : decode cL_areThings 313 = .ok (.iconst 4, 1) := by decide +kernel
theorem dL_areThings_314 : decode cL_areThings 314 = .ok (.if_icmp .ge 29, 3) := by decide +kernel
theorem dL_areThings_317 : decode cL_areThings 317 = .ok (.iload 4, 2) := by decide +kernel
theorem dL_areThings_319 : decode cL_areThings 319 = .ok (.aload_n 0, 1) := by decide +kernel
theorem dL_areThings_320 : decode cL_areThings 320 = .ok (.iload 8, 2) := by decide +kernel
theorem dL_areThings_322 : decode cL_areThings 322 = .ok (.iconst 0, 1) := by decide +kernel
theorem dL_areThings_323 : decode cL_areThings 323 = .ok (.invokevirtual 15, 3) := by decide +kernel
theorem dL_areThings_326 : decode cL_areThings 326 = .ok (.ifCond .lt 7, 3) := by decide +kernel
theorem dL_areThings_329 : decode cL_areThings 329 = .ok (.iconst 1, 1) := by decide +kernel
theorem dL_areThings_330 : decode cL_areThings 330 = .ok (.goto 4, 3) := by decide +kernel
theorem dL_areThings_333 : decode cL_areThings 333 = .ok (.iconst 0, 1) := by decide +kernel
theorem dL_areThings_334 : decode cL_areThings 334 = .ok (.iadd, 1) := by decide +kernel
theorem dL_areThings_335 : decode cL_areThings 335 = .ok (.istore 4, 2) := by decide +kernel
theorem dL_areThings_337 : decode cL_areThings 337 = .ok (.iinc 8 1, 3) := by decide +kernel
theorem dL_areThings_340 : decode cL_areThings 340 = .ok (.goto (-29), 3) := by decide +kernel
theorem dL_areThings_343 : decode cL_areThings 343 = .ok (.iconst 0, 1) := by decide +kernel
theorem dL_areThings_344 : decode cL_areThings 344 = .ok (.istore 8, 2) := by decide +kernel
theorem dL_areThings_346 : decode cL_areThings 346 = .ok (.iload 8, 2) := by decide +kernel
theorem dL_areThings_348 : decode cL_areThings 348 = .ok (.bipush 8, 2) := by decide +kernel
theorem dL_areThings_350 : decode cL_areThings 350 = .ok (.if_icmp .ge 103, 3) := by decide +kernel
theorem dL_areThings_353 : decode cL_areThings 353 = .ok (.iload 7, 2) := by decide +kernel
theorem dL_areThings_355 : decode cL_areThings 355 = .ok (.ifCond .eq 98, 3) := by decide +kernel
theorem dL_areThings_358 : decode cL_areThings 358 = .ok (.aload_n 0, 1) := by decide +kernel
theorem dL_areThings_359 : decode cL_areThings 359 = .ok (.iload 8, 2) := by decide +kernel
theorem dL_areThings_361 : decode cL_areThings 361 = .ok (.iconst 0, 1) := by decide +kernel
theorem dL_areThings_362 : decode cL_areThings 362 = .ok (.invokevirtual 18, 3) := by decide +kernel
theorem dL_areThings_365 : decode cL_areThings 365 = .ok (.ifCond .lt 82, 3) := by decide +kernel
theorem dL_areThings_368 : decode cL_areThings 368 = .ok (.aload_n 0, 1) := by decide +kernel
theorem dL_areThings_369 : decode cL_areThings 369 = .ok (.iload 8, 2) := by decide +kernel
theorem dL_areThings_371 : decode cL_areThings 371 = .ok (.iconst 3, 1) := by decide +kernel
theorem dL_areThings_372 : decode cL_areThings 372 = .ok (.invokevirtual 18, 3) := by decide +kernel
theorem dL_areThings_375 : decode cL_areThings 375 = .ok (.istore 9, 2) := by decide +kernel
theorem dL_areThings_377 : decode cL_areThings 377 = .ok (.iinc 5 1, 3) := by decide +kernel
theorem dL_areThings_380 : decode cL_areThings 380 = .ok (.iload 6, 2) := by decide +kernel
theorem dL_areThings_382 : decode cL_areThings 382 = .ok (.iload 9, 2) := by decide +kernel
theorem dL_areThings_384 : decode cL_areThings 384 = .ok (.ifCond .le 7, 3) := by decide +kernel
theorem dL_areThings_387 : decode cL_areThings 387 = .ok (.iconst 1, 1) := by decide +kernel
theorem dL_areThings_388 : decode cL_areThings 388 = .ok (.goto 4, 3) := by decide +kernel
