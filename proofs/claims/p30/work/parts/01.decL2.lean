/-! the law's own methods: their instructions -/
theorem dL_areReceivers_286 : decode cL_areReceivers 286 = .ok (.aload_n 0, 1) := by decide +kernel
theorem dL_areReceivers_287 : decode cL_areReceivers 287 = .ok (.iconst 2, 1) := by decide +kernel
theorem dL_areReceivers_288 : decode cL_areReceivers 288 = .ok (.invokevirtual 40, 3) := by decide +kernel
theorem dL_areReceivers_291 : decode cL_areReceivers 291 = .ok (.i2f, 1) := by decide +kernel
theorem dL_areReceivers_292 : decode cL_areReceivers 292 = .ok (.iload_n 2, 1) := by decide +kernel
theorem dL_areReceivers_293 : decode cL_areReceivers 293 = .ok (.i2f, 1) := by decide +kernel
theorem dL_areReceivers_294 : decode cL_areReceivers 294 = .ok (.fdiv, 1) := by decide +kernel
theorem dL_areReceivers_295 : decode cL_areReceivers 295 = .ok (.fstore_n 3, 1) := by decide +kernel
theorem dL_areReceivers_296 : decode cL_areReceivers 296 = .ok (.iload_n 1, 1) := by decide +kernel
theorem dL_areReceivers_297 : decode cL_areReceivers 297 = .ok (.ifCond .eq 16, 3) := by decide +kernel
theorem dL_areReceivers_300 : decode cL_areReceivers 300 = .ok (.aload_n 0, 1) := by decide +kernel
theorem dL_areReceivers_301 : decode cL_areReceivers 301 = .ok (.invokevirtual 43, 3) := by decide +kernel
theorem dL_areReceivers_304 : decode cL_areReceivers 304 = .ok (.fload_n 3, 1) := by decide +kernel
theorem dL_areReceivers_305 : decode cL_areReceivers 305 = .ok (.fcmp .l, 1) := by decide +kernel
theorem dL_areReceivers_306 : decode cL_areReceivers 306 = .ok (.ifCond .ne 7, 3) := by decide +kernel
theorem dL_areReceivers_309 : decode cL_areReceivers 309 = .ok (.iconst 1, 1) := by decide +kernel
theorem dL_areReceivers_310 : decode cL_areReceivers 310 = .ok (.goto 4, 3) := by decide +kernel
theorem dL_areReceivers_313 : decode cL_areReceivers 313 = .ok (.iconst 0, 1) := by decide +kernel
theorem dL_areReceivers_314 : decode cL_areReceivers 314 = .ok (.ireturn, 1) := by decide +kernel
theorem dL_areBeats_0 : decode cL_areBeats 0 = .ok (.aload_n 0, 1) := by decide +kernel
theorem dL_areBeats_1 : decode cL_areBeats 1 = .ok (.invokevirtual 47, 3) := by decide +kernel
theorem dL_areBeats_4 : decode cL_areBeats 4 = .ok (.istore_n 2, 1) := by decide +kernel
theorem dL_areBeats_5 : decode cL_areBeats 5 = .ok (.iload_n 1, 1) := by decide +kernel
theorem dL_areBeats_6 : decode cL_areBeats 6 = .ok (.bipush 64, 2) := by decide +kernel
theorem dL_areBeats_8 : decode cL_areBeats 8 = .ok (.idiv, 1) := by decide +kernel
theorem dL_areBeats_9 : decode cL_areBeats 9 = .ok (.bipush 8, 2) := by decide +kernel
theorem dL_areBeats_11 : decode cL_areBeats 11 = .ok (.irem, 1) := by decide +kernel
theorem dL_areBeats_12 : decode cL_areBeats 12 = .ok (.istore_n 3, 1) := by decide +kernel
theorem dL_areBeats_13 : decode cL_areBeats 13 = .ok (.iconst 1, 1) := by decide +kernel
theorem dL_areBeats_14 : decode cL_areBeats 14 = .ok (.iload_n 1, 1) := by decide +kernel
theorem dL_areBeats_15 : decode cL_areBeats 15 = .ok (.bipush 50, 2) := by decide +kernel
theorem dL_areBeats_17 : decode cL_areBeats 17 = .ok (.irem, 1) := by decide +kernel
theorem dL_areBeats_18 : decode cL_areBeats 18 = .ok (.iadd, 1) := by decide +kernel
theorem dL_areBeats_19 : decode cL_areBeats 19 = .ok (.istore 4, 2) := by decide +kernel
theorem dL_areBeats_21 : decode cL_areBeats 21 = .ok (.aload_n 0, 1) := by decide +kernel
theorem dL_areBeats_22 : decode cL_areBeats 22 = .ok (.iload_n 3, 1) := by decide +kernel
theorem dL_areBeats_23 : decode cL_areBeats 23 = .ok (.iload 4, 2) := by decide +kernel
theorem dL_areBeats_25 : decode cL_areBeats 25 = .ok (.invokevirtual 30, 3) := by decide +kernel
theorem dL_areBeats_28 : decode cL_areBeats 28 = .ok (.istore 5, 2) := by decide +kernel
theorem dL_areBeats_30 : decode cL_areBeats 30 = .ok (.aload_n 0, 1) := by decide +kernel
theorem dL_areBeats_31 : decode cL_areBeats 31 = .ok (.invokevirtual 51, 3) := by decide +kernel
theorem dL_areBeats_34 : decode cL_areBeats 34 = .ok (.istore 6, 2) := by decide +kernel
theorem dL_areBeats_36 : decode cL_areBeats 36 = .ok (.aload_n 0, 1) := by decide +kernel
theorem dL_areBeats_37 : decode cL_areBeats 37 = .ok (.iconst 2, 1) := by decide +kernel
theorem dL_areBeats_38 : decode cL_areBeats 38 = .ok (.invokevirtual 40, 3) := by decide +kernel
theorem dL_areBeats_41 : decode cL_areBeats 41 = .ok (.istore 7, 2) := by decide +kernel
theorem dL_areBeats_43 : decode cL_areBeats 43 = .ok (.iconst 0, 1) := by decide +kernel
theorem dL_areBeats_44 : decode cL_areBeats 44 = .ok (.istore 8, 2) := by decide +kernel
theorem dL_areBeats_46 : decode cL_areBeats 46 = .ok (.aload_n 0, 1) := by decide +kernel
theorem dL_areBeats_47 : decode cL_areBeats 47 = .ok (.iconst 5, 1) := by decide +kernel
theorem dL_areBeats_48 : decode cL_areBeats 48 = .ok (.invokevirtual 33, 3) := by decide +kernel
theorem dL_areBeats_51 : decode cL_areBeats 51 = .ok (.ifCond .ne 7, 3) := by decide +kernel
theorem dL_areBeats_54 : decode cL_areBeats 54 = .ok (.iconst 0, 1) := by decide +kernel
theorem dL_areBeats_55 : decode cL_areBeats 55 = .ok (.goto 5, 3) := by decide +kernel
theorem dL_areBeats_58 : decode cL_areBeats 58 = .ok (.bipush (-5), 2) := by decide +kernel
theorem dL_areBeats_60 : decode cL_areBeats 60 = .ok (.istore 9, 2) := by decide +kernel
theorem dL_areBeats_62 : decode cL_areBeats 62 = .ok (.iload 6, 2) := by decide +kernel
theorem dL_areBeats_64 : decode cL_areBeats 64 = .ok (.aload_n 0, 1) := by decide +kernel
theorem dL_areBeats_65 : decode cL_areBeats 65 = .ok (.iconst 0, 1) := by decide +kernel
theorem dL_areBeats_66 : decode cL_areBeats 66 = .ok (.invokevirtual 33, 3) := by decide +kernel
theorem dL_areBeats_69 : decode cL_areBeats 69 = .ok (.if_icmp .ne 7, 3) := by decide +kernel
theorem dL_areBeats_72 : decode cL_areBeats 72 = .ok (.iconst 1, 1) := by decide +kernel
theorem dL_areBeats_73 : decode cL_areBeats 73 = .ok (.goto 4, 3) := by decide +kernel
theorem dL_areBeats_76 : decode cL_areBeats 76 = .ok (.iconst 0, 1) := by decide +kernel
theorem dL_areBeats_77 : decode cL_areBeats 77 = .ok (.istore 10, 2) := by decide +kernel
theorem dL_areBeats_79 : decode cL_areBeats 79 = .ok (.iconst 1, 1) := by decide +kernel
theorem dL_areBeats_80 : decode cL_areBeats 80 = .ok (.istore 11, 2) := by decide +kernel
theorem dL_areBeats_82 : decode cL_areBeats 82 = .ok (.iload 11, 2) := by decide +kernel
theorem dL_areBeats_84 : decode cL_areBeats 84 = .ok (.iload 4, 2) := by decide +kernel
theorem dL_areBeats_86 : decode cL_areBeats 86 = .ok (.if_icmp .gt 106, 3) := by decide +kernel
theorem dL_areBeats_89 : decode cL_areBeats 89 = .ok (.iload 10, 2) := by decide +kernel
theorem dL_areBeats_91 : decode cL_areBeats 91 = .ok (.ifCond .eq 101, 3) := by decide +kernel
theorem dL_areBeats_94 : decode cL_areBeats 94 = .ok (.aload_n 0, 1) := by decide +kernel
theorem dL_areBeats_95 : decode cL_areBeats 95 = .ok (.iconst 5, 1) := by decide +kernel
theorem dL_areBeats_96 : decode cL_areBeats 96 = .ok (.invokevirtual 33, 3) := by decide +kernel
theorem dL_areBeats_99 : decode cL_areBeats 99 = .ok (.istore 12, 2) := by decide +kernel
theorem dL_areBeats_101 : decode cL_areBeats 101 = .ok (.aload_n 0, 1) := by decide +kernel
theorem dL_areBeats_102 : decode cL_areBeats 102 = .ok (.iconst 0, 1) := by decide +kernel
theorem dL_areBeats_103 : decode cL_areBeats 103 = .ok (.invokevirtual 40, 3) := by decide +kernel
theorem dL_areBeats_106 : decode cL_areBeats 106 = .ok (.istore 13, 2) := by decide +kernel
theorem dL_areBeats_108 : decode cL_areBeats 108 = .ok (.iload 8, 2) := by decide +kernel
theorem dL_areBeats_110 : decode cL_areBeats 110 = .ok (.aload_n 0, 1) := by decide +kernel
theorem dL_areBeats_111 : decode cL_areBeats 111 = .ok (.iconst 1, 1) := by decide +kernel
theorem dL_areBeats_112 : decode cL_areBeats 112 = .ok (.invokevirtual 54, 3) := by decide +kernel
theorem dL_areBeats_115 : decode cL_areBeats 115 = .ok (.iadd, 1) := by decide +kernel
theorem dL_areBeats_116 : decode cL_areBeats 116 = .ok (.istore 8, 2) := by decide +kernel
theorem dL_areBeats_118 : decode cL_areBeats 118 = .ok (.iload 9, 2) := by decide +kernel
theorem dL_areBeats_120 : decode cL_areBeats 120 = .ok (.ifCond .ge 16, 3) := by decide +kernel
theorem dL_areBeats_123 : decode cL_areBeats 123 = .ok (.aload_n 0, 1) := by decide +kernel
theorem dL_areBeats_124 : decode cL_areBeats 124 = .ok (.iconst 5, 1) := by decide +kernel
theorem dL_areBeats_125 : decode cL_areBeats 125 = .ok (.invokevirtual 33, 3) := by decide +kernel
theorem dL_areBeats_128 : decode cL_areBeats 128 = .ok (.ifCond .ne 8, 3) := by decide +kernel
theorem dL_areBeats_131 : decode cL_areBeats 131 = .ok (.iload 11, 2) := by decide +kernel
theorem dL_areBeats_133 : decode cL_areBeats 133 = .ok (.goto 5, 3) := by decide +kernel
theorem dL_areBeats_136 : decode cL_areBeats 136 = .ok (.iload 9, 2) := by decide +kernel
theorem dL_areBeats_138 : decode cL_areBeats 138 = .ok (.istore 9, 2) := by decide +kernel
theorem dL_areBeats_140 : decode cL_areBeats 140 = .ok (.aload_n 0, 1) := by decide +kernel
theorem dL_areBeats_141 : decode cL_areBeats 141 = .ok (.iconst 0, 1) := by decide +kernel
theorem dL_areBeats_142 : decode cL_areBeats 142 = .ok (.invokevirtual 33, 3) := by decide +kernel
theorem dL_areBeats_145 : decode cL_areBeats 145 = .ok (.iload 6, 2) := by decide +kernel
theorem dL_areBeats_147 : decode cL_areBeats 147 = .ok (.iload 11, 2) := by decide +kernel
theorem dL_areBeats_149 : decode cL_areBeats 149 = .ok (.iadd, 1) := by decide +kernel
theorem dL_areBeats_150 : decode cL_areBeats 150 = .ok (.if_icmp .ne 33, 3) := by decide +kernel
theorem dL_areBeats_153 : decode cL_areBeats 153 = .ok (.iload 12, 2) := by decide +kernel
theorem dL_areBeats_155 : decode cL_areBeats 155 = .ok (.aload_n 0, 1) := by decide +kernel
theorem dL_areBeats_156 : decode cL_areBeats 156 = .ok (.iconst 5, 1) := by decide +kernel
theorem dL_areBeats_157 : decode cL_areBeats 157 = .ok (.invokevirtual 33, 3) := by decide +kernel
theorem dL_areBeats_160 : decode cL_areBeats 160 = .ok (.isub, 1) := by decide +kernel
theorem dL_areBeats_161 : decode cL_areBeats 161 = .ok (.aload_n 0, 1) := by decide +kernel
theorem dL_areBeats_162 : decode cL_areBeats 162 = .ok (.iconst 0, 1) := by decide +kernel
theorem dL_areBeats_163 : decode cL_areBeats 163 = .ok (.invokevirtual 40, 3) := by decide +kernel
theorem dL_areBeats_166 : decode cL_areBeats 166 = .ok (.iload 13, 2) := by decide +kernel
theorem dL_areBeats_168 : decode cL_areBeats 168 = .ok (.isub, 1) := by decide +kernel
theorem dL_areBeats_169 : decode cL_areBeats 169 = .ok (.if_icmp .ne 14, 3) := by decide +kernel
theorem dL_areBeats_172 : decode cL_areBeats 172 = .ok (.aload_n 0, 1) := by decide +kernel
theorem dL_areBeats_173 : decode cL_areBeats 173 = .ok (.invokestatic 57, 3) := by decide +kernel
theorem dL_areBeats_176 : decode cL_areBeats 176 = .ok (.ifCond .eq 7, 3) := by decide +kernel
theorem dL_areBeats_179 : decode cL_areBeats 179 = .ok (.iconst 1, 1) := by decide +kernel
theorem dL_areBeats_180 : decode cL_areBeats 180 = .ok (.goto 4, 3) := by decide +kernel
theorem dL_areBeats_183 : decode cL_areBeats 183 = .ok (.iconst 0, 1) := by decide +kernel
theorem dL_areBeats_184 : decode cL_areBeats 184 = .ok (.istore 10, 2) := by decide +kernel
theorem dL_areBeats_186 : decode cL_areBeats 186 = .ok (.iinc 11 1, 3) := by decide +kernel
theorem dL_areBeats_189 : decode cL_areBeats 189 = .ok (.goto (-107), 3) := by decide +kernel
theorem dL_areBeats_192 : decode cL_areBeats 192 = .ok (.iload 10, 2) := by decide +kernel
theorem dL_areBeats_194 : decode cL_areBeats 194 = .ok (.ifCond .eq 73, 3) := by decide +kernel
theorem dL_areBeats_197 : decode cL_areBeats 197 = .ok (.iload 8, 2) := by decide +kernel
theorem dL_areBeats_199 : decode cL_areBeats 199 = .ok (.aload_n 0, 1) := by decide +kernel
theorem dL_areBeats_200 : decode cL_areBeats 200 = .ok (.iconst 2, 1) := by decide +kernel
theorem dL_areBeats_201 : decode cL_areBeats 201 = .ok (.invokevirtual 40, 3) := by decide +kernel
theorem dL_areBeats_204 : decode cL_areBeats 204 = .ok (.iload 7, 2) := by decide +kernel
theorem dL_areBeats_206 : decode cL_areBeats 206 = .ok (.isub, 1) := by decide +kernel
theorem dL_areBeats_207 : decode cL_areBeats 207 = .ok (.if_icmp .ne 60, 3) := by decide +kernel
theorem dL_areBeats_210 : decode cL_areBeats 210 = .ok (.aload_n 0, 1) := by decide +kernel
theorem dL_areBeats_211 : decode cL_areBeats 211 = .ok (.iload_n 3, 1) := by decide +kernel
theorem dL_areBeats_212 : decode cL_areBeats 212 = .ok (.iconst 0, 1) := by decide +kernel
theorem dL_areBeats_213 : decode cL_areBeats 213 = .ok (.invokevirtual 18, 3) := by decide +kernel
theorem dL_areBeats_216 : decode cL_areBeats 216 = .ok (.ifCond .ge 12, 3) := by decide +kernel
theorem dL_areBeats_219 : decode cL_areBeats 219 = .ok (.iload 5, 2) := by decide +kernel
theorem dL_areBeats_221 : decode cL_areBeats 221 = .ok (.iconst (-1), 1) := by decide +kernel
theorem dL_areBeats_222 : decode cL_areBeats 222 = .ok (.if_icmp .ne 45, 3) := by decide +kernel
theorem dL_areBeats_225 : decode cL_areBeats 225 = .ok (.goto 14, 3) := by decide +kernel
theorem dL_areBeats_228 : decode cL_areBeats 228 = .ok (.aload_n 0, 1) := by decide +kernel
theorem dL_areBeats_229 : decode cL_areBeats 229 = .ok (.iload_n 3, 1) := by decide +kernel
theorem dL_areBeats_230 : decode cL_areBeats 230 = .ok (.iconst 3, 1) := by decide +kernel
theorem dL_areBeats_231 : decode cL_areBeats 231 = .ok (.invokevirtual 18, 3) := by decide +kernel
theorem dL_areBeats_234 : decode cL_areBeats 234 = .ok (.iload 5, 2) := by decide +kernel
theorem dL_areBeats_236 : decode cL_areBeats 236 = .ok (.if_icmp .ne 31, 3) := by decide +kernel
theorem dL_areBeats_239 : decode cL_areBeats 239 = .ok (.iload 9, 2) := by decide +kernel
theorem dL_areBeats_241 : decode cL_areBeats 241 = .ok (.ifCond .ge 16, 3) := by decide +kernel
theorem dL_areBeats_244 : decode cL_areBeats 244 = .ok (.iload_n 2, 1) := by decide +kernel
theorem dL_areBeats_245 : decode cL_areBeats 245 = .ok (.ifCond .lt 18, 3) := by decide +kernel
theorem dL_areBeats_248 : decode cL_areBeats 248 = .ok (.iload_n 2, 1) := by decide +kernel
theorem dL_areBeats_249 : decode cL_areBeats 249 = .ok (.iload 4, 2) := by decide +kernel
theorem dL_areBeats_251 : decode cL_areBeats 251 = .ok (.if_icmp .le 16, 3) := by decide +kernel
theorem dL_areBeats_254 : decode cL_areBeats 254 = .ok (.goto 9, 3) := by decide +kernel
theorem dL_areBeats_257 : decode cL_areBeats 257 = .ok (.iload_n 2, 1) := by decide +kernel
theorem dL_areBeats_258 : decode cL_areBeats 258 = .ok (.iload 9, 2) := by decide +kernel
theorem dL_areBeats_260 : decode cL_areBeats 260 = .ok (.if_icmp .ne 7, 3) := by decide +kernel
theorem dL_areBeats_263 : decode cL_areBeats 263 = .ok (.iconst 1, 1) := by decide +kernel
theorem dL_areBeats_264 : decode cL_areBeats 264 = .ok (.goto 4, 3) := by decide +kernel
theorem dL_areBeats_267 : decode cL_areBeats 267 = .ok (.iconst 0, 1) := by decide +kernel
theorem dL_areBeats_268 : decode cL_areBeats 268 = .ok (.istore 10, 2) := by decide +kernel
theorem dL_areBeats_270 : decode cL_areBeats 270 = .ok (.aload_n 0, 1) := by decide +kernel
theorem dL_areBeats_271 : decode cL_areBeats 271 = .ok (.iconst 2, 1) := by decide +kernel
theorem dL_areBeats_272 : decode cL_areBeats 272 = .ok (.invokevirtual 40, 3) := by decide +kernel
theorem dL_areBeats_275 : decode cL_areBeats 275 = .ok (.aload_n 0, 1) := by decide +kernel
theorem dL_areBeats_276 : decode cL_areBeats 276 = .ok (.iconst 3, 1) := by decide +kernel
theorem dL_areBeats_277 : decode cL_areBeats 277 = .ok (.invokevirtual 40, 3) := by decide +kernel
theorem dL_areBeats_280 : decode cL_areBeats 280 = .ok (.iadd, 1) := by decide +kernel
theorem dL_areBeats_281 : decode cL_areBeats 281 = .ok (.aload_n 0, 1) := by decide +kernel
theorem dL_areBeats_282 : decode cL_areBeats 282 = .ok (.iconst 4, 1) := by decide +kernel
theorem dL_areBeats_283 : decode cL_areBeats 283 = .ok (.invokevirtual 40, 3) := by decide +kernel
theorem dL_areBeats_286 : decode cL_areBeats 286 = .ok (.iadd, 1) := by decide +kernel
theorem dL_areBeats_287 : decode cL_areBeats 287 = .ok (.istore 11, 2) := by decide +kernel
theorem dL_areBeats_289 : decode cL_areBeats 289 = .ok (.iload 10, 2) := by decide +kernel
theorem dL_areBeats_291 : decode cL_areBeats 291 = .ok (.ifCond .eq 49, 3) := by decide +kernel
theorem dL_areBeats_294 : decode cL_areBeats 294 = .ok (.aload_n 0, 1) := by decide +kernel
theorem dL_areBeats_295 : decode cL_areBeats 295 = .ok (.invokevirtual 63, 3) := by decide +kernel
theorem dL_areBeats_298 : decode cL_areBeats 298 = .ok (.iload 6, 2) := by decide +kernel
theorem dL_areBeats_300 : decode cL_areBeats 300 = .ok (.if_icmp .ne 40, 3) := by decide +kernel
theorem dL_areBeats_303 : decode cL_areBeats 303 = .ok (.aload_n 0, 1) := by decide +kernel
theorem dL_areBeats_304 : decode cL_areBeats 304 = .ok (.iload 4, 2) := by decide +kernel
theorem dL_areBeats_306 : decode cL_areBeats 306 = .ok (.invokevirtual 54, 3) := by decide +kernel
theorem dL_areBeats_309 : decode cL_areBeats 309 = .ok (.iload 8, 2) := by decide +kernel
theorem dL_areBeats_311 : decode cL_areBeats 311 = .ok (.if_icmp .ne 29, 3) := by decide +kernel
theorem dL_areBeats_314 : decode cL_areBeats 314 = .ok (.aload_n 0, 1) := by decide +kernel
theorem dL_areBeats_315 : decode cL_areBeats 315 = .ok (.iconst 2, 1) := by decide +kernel
theorem dL_areBeats_316 : decode cL_areBeats 316 = .ok (.invokevirtual 40, 3) := by decide +kernel
theorem dL_areBeats_319 : decode cL_areBeats 319 = .ok (.aload_n 0, 1) := by decide +kernel
theorem dL_areBeats_320 : decode cL_areBeats 320 = .ok (.iconst 3, 1) := by decide +kernel
theorem dL_areBeats_321 : decode cL_areBeats 321 = .ok (.invokevirtual 40, 3) := by decide +kernel
theorem dL_areBeats_324 : decode cL_areBeats 324 = .ok (.iadd, 1) := by decide +kernel
theorem dL_areBeats_325 : decode cL_areBeats 325 = .ok (.aload_n 0, 1) := by decide +kernel
theorem dL_areBeats_326 : decode cL_areBeats 326 = .ok (.iconst 4, 1) := by decide +kernel
theorem dL_areBeats_327 : decode cL_areBeats 327 = .ok (.invokevirtual 40, 3) := by decide +kernel
theorem dL_areBeats_330 : decode cL_areBeats 330 = .ok (.iadd, 1) := by decide +kernel
theorem dL_areBeats_331 : decode cL_areBeats 331 = .ok (.iload 11, 2) := by decide +kernel
theorem dL_areBeats_333 : decode cL_areBeats 333 = .ok (.if_icmp .ne 7, 3) := by decide +kernel
theorem dL_areBeats_336 : decode cL_areBeats 336 = .ok (.iconst 1, 1) := by decide +kernel
theorem dL_areBeats_337 : decode cL_areBeats 337 = .ok (.goto 4, 3) := by decide +kernel
theorem dL_areBeats_340 : decode cL_areBeats 340 = .ok (.iconst 0, 1) := by decide +kernel
theorem dL_areBeats_341 : decode cL_areBeats 341 = .ok (.ireturn, 1) := by decide +kernel
theorem dL_acts_0 : decode cL_acts 0 = .ok (.iload_n 1, 1) := by decide +kernel
theorem dL_acts_1 : decode cL_acts 1 = .ok (.iconst 4, 1) := by decide +kernel
theorem dL_acts_2 : decode cL_acts 2 = .ok (.ishr, 1) := by decide +kernel
theorem dL_acts_3 : decode cL_acts 3 = .ok (.bipush 6, 2) := by decide +kernel
theorem dL_acts_5 : decode cL_acts 5 = .ok (.irem, 1) := by decide +kernel
theorem dL_acts_6 : decode cL_acts 6 = .ok (.istore_n 2, 1) := by decide +kernel
theorem dL_acts_7 : decode cL_acts 7 = .ok (.iload_n 1, 1) := by decide +kernel
theorem dL_acts_8 : decode cL_acts 8 = .ok (.iconst 4, 1) := by decide +kernel
theorem dL_acts_9 : decode cL_acts 9 = .ok (.ishr, 1) := by decide +kernel
theorem dL_acts_10 : decode cL_acts 10 = .ok (.iconst 5, 1) := by decide +kernel
theorem dL_acts_11 : decode cL_acts 11 = .ok (.irem, 1) := by decide +kernel
theorem dL_acts_12 : decode cL_acts 12 = .ok (.istore_n 3, 1) := by decide +kernel
theorem dL_acts_13 : decode cL_acts 13 = .ok (.iload_n 1, 1) := by decide +kernel
theorem dL_acts_14 : decode cL_acts 14 = .ok (.bipush 10, 2) := by decide +kernel
theorem dL_acts_16 : decode cL_acts 16 = .ok (.irem, 1) := by decide +kernel
theorem dL_acts_17 : decode cL_acts 17 = .ok (.tableswitch 712 0 7 #[47, 154, 272, 383, 523, 618, 618, 618], 47) := by decide +kernel
theorem dL_acts_64 : decode cL_acts 64 = .ok (.aload_n 0, 1) := by decide +kernel
theorem dL_acts_65 : decode cL_acts 65 = .ok (.iconst 1, 1) := by decide +kernel
