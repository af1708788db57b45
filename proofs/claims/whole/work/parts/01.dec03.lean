theorem dX9_act_187 : decode cX9_act 187 = .ok (.aload_n 0, 1) := by decide +kernel
theorem dX9_act_188 : decode cX9_act 188 = .ok (.getfield 7, 3) := by decide +kernel
theorem dX9_act_191 : decode cX9_act 191 = .ok (.iload 7, 2) := by decide +kernel
theorem dX9_act_193 : decode cX9_act 193 = .ok (.iconst 4, 1) := by decide +kernel
theorem dX9_act_194 : decode cX9_act 194 = .ok (.iadd, 1) := by decide +kernel
theorem dX9_act_195 : decode cX9_act 195 = .ok (.iaload, 1) := by decide +kernel
theorem dX9_act_196 : decode cX9_act 196 = .ok (.bipush 9, 2) := by decide +kernel
theorem dX9_act_198 : decode cX9_act 198 = .ok (.if_icmp .ge 17, 3) := by decide +kernel
theorem dX9_act_201 : decode cX9_act 201 = .ok (.aload_n 0, 1) := by decide +kernel
theorem dX9_act_202 : decode cX9_act 202 = .ok (.getfield 7, 3) := by decide +kernel
theorem dX9_act_205 : decode cX9_act 205 = .ok (.iload 7, 2) := by decide +kernel
theorem dX9_act_207 : decode cX9_act 207 = .ok (.iconst 4, 1) := by decide +kernel
theorem dX9_act_208 : decode cX9_act 208 = .ok (.iadd, 1) := by decide +kernel
theorem dX9_act_209 : decode cX9_act 209 = .ok (.iaload, 1) := by decide +kernel
theorem dX9_act_210 : decode cX9_act 210 = .ok (.iconst 1, 1) := by decide +kernel
theorem dX9_act_211 : decode cX9_act 211 = .ok (.iadd, 1) := by decide +kernel
theorem dX9_act_212 : decode cX9_act 212 = .ok (.goto 5, 3) := by decide +kernel
theorem dX9_act_215 : decode cX9_act 215 = .ok (.bipush 9, 2) := by decide +kernel
theorem dX9_act_217 : decode cX9_act 217 = .ok (.iastore, 1) := by decide +kernel
theorem dX9_act_218 : decode cX9_act 218 = .ok (.iinc 6 1, 3) := by decide +kernel
theorem dX9_act_221 : decode cX9_act 221 = .ok (.goto (-175), 3) := by decide +kernel
theorem dX9_act_224 : decode cX9_act 224 = .ok (.aload_n 0, 1) := by decide +kernel
theorem dX9_act_225 : decode cX9_act 225 = .ok (.getfield 7, 3) := by decide +kernel
theorem dX9_act_228 : decode cX9_act 228 = .ok (.iload_n 1, 1) := by decide +kernel
theorem dX9_act_229 : decode cX9_act 229 = .ok (.invokestatic 42, 3) := by decide +kernel
theorem dX9_act_232 : decode cX9_act 232 = .ok (.bipush 6, 2) := by decide +kernel
theorem dX9_act_234 : decode cX9_act 234 = .ok (.iadd, 1) := by decide +kernel
theorem dX9_act_235 : decode cX9_act 235 = .ok (.iaload, 1) := by decide +kernel
theorem dX9_act_236 : decode cX9_act 236 = .ok (.bipush 15, 2) := by decide +kernel
theorem dX9_act_238 : decode cX9_act 238 = .ok (.iconst 1, 1) := by decide +kernel
theorem dX9_act_239 : decode cX9_act 239 = .ok (.iload_n 3, 1) := by decide +kernel
theorem dX9_act_240 : decode cX9_act 240 = .ok (.ishl, 1) := by decide +kernel
theorem dX9_act_241 : decode cX9_act 241 = .ok (.isub, 1) := by decide +kernel
theorem dX9_act_242 : decode cX9_act 242 = .ok (.iand, 1) := by decide +kernel
theorem dX9_act_243 : decode cX9_act 243 = .ok (.istore 6, 2) := by decide +kernel
theorem dX9_act_245 : decode cX9_act 245 = .ok (.aload_n 0, 1) := by decide +kernel
theorem dX9_act_246 : decode cX9_act 246 = .ok (.getfield 7, 3) := by decide +kernel
theorem dX9_act_249 : decode cX9_act 249 = .ok (.iload_n 1, 1) := by decide +kernel
theorem dX9_act_250 : decode cX9_act 250 = .ok (.invokestatic 42, 3) := by decide +kernel
theorem dX9_act_253 : decode cX9_act 253 = .ok (.bipush 6, 2) := by decide +kernel
theorem dX9_act_255 : decode cX9_act 255 = .ok (.iadd, 1) := by decide +kernel
theorem dX9_act_256 : decode cX9_act 256 = .ok (.iload 4, 2) := by decide +kernel
theorem dX9_act_258 : decode cX9_act 258 = .ok (.iconst 4, 1) := by decide +kernel
theorem dX9_act_259 : decode cX9_act 259 = .ok (.if_icmp .ge 12, 3) := by decide +kernel
theorem dX9_act_262 : decode cX9_act 262 = .ok (.iload 6, 2) := by decide +kernel
theorem dX9_act_264 : decode cX9_act 264 = .ok (.iconst 1, 1) := by decide +kernel
theorem dX9_act_265 : decode cX9_act 265 = .ok (.iload_n 3, 1) := by decide +kernel
theorem dX9_act_266 : decode cX9_act 266 = .ok (.ishl, 1) := by decide +kernel
theorem dX9_act_267 : decode cX9_act 267 = .ok (.ior, 1) := by decide +kernel
theorem dX9_act_268 : decode cX9_act 268 = .ok (.goto 5, 3) := by decide +kernel
theorem dX9_act_271 : decode cX9_act 271 = .ok (.iload 6, 2) := by decide +kernel
theorem dX9_act_273 : decode cX9_act 273 = .ok (.iastore, 1) := by decide +kernel
theorem dX9_act_274 : decode cX9_act 274 = .ok (.return_, 1) := by decide +kernel
set_option maxRecDepth 20000 in
theorem ggX9_tell_X9_r : GoodIn wsX9_tell wsX9_r := goodIn_r _ [5] (by decide +kernel) (by decide +kernel)
set_option maxRecDepth 20000 in
theorem gX9_tell_X9_r : GoodIn wsX9_tell (va_wsS RX9 42 yX9_r wsX9_r) := goodIn_app (goodIn_of _ (by decide +kernel)) ggX9_tell_X9_r
set_option maxRecDepth 20000 in
theorem ggX9_tell_X9_act : GoodIn wsX9_tell wsX9_act := goodIn_r _ [9, 1, 2, 3, 4, 5, 10, 11, 12, 13, 14, 15, 16, 17, 18, 19, 20, 21, 22, 23, 24, 25, 26, 27, 28, 29, 30, 31, 32, 33, 34, 35, 36, 37, 38] (by decide +kernel) (by decide +kernel)
set_option maxRecDepth 20000 in
theorem gX9_tell_X9_act : GoodIn wsX9_tell (wsV RX9 94 RX9 yX9_act wsX9_act) := goodIn_app (goodIn_of _ (by decide +kernel)) ggX9_tell_X9_act
theorem dX9_tell_0 : decode cX9_tell 0 = .ok (.iload_n 1, 1) := by decide +kernel
theorem dX9_tell_1 : decode cX9_tell 1 = .ok (.invokestatic 42, 3) := by decide +kernel
theorem dX9_tell_4 : decode cX9_tell 4 = .ok (.istore_n 3, 1) := by decide +kernel
theorem dX9_tell_5 : decode cX9_tell 5 = .ok (.aload_n 0, 1) := by decide +kernel
theorem dX9_tell_6 : decode cX9_tell 6 = .ok (.getfield 7, 3) := by decide +kernel
theorem dX9_tell_9 : decode cX9_tell 9 = .ok (.iload_n 3, 1) := by decide +kernel
theorem dX9_tell_10 : decode cX9_tell 10 = .ok (.iconst 4, 1) := by decide +kernel
theorem dX9_tell_11 : decode cX9_tell 11 = .ok (.iadd, 1) := by decide +kernel
theorem dX9_tell_12 : decode cX9_tell 12 = .ok (.iaload, 1) := by decide +kernel
theorem dX9_tell_13 : decode cX9_tell 13 = .ok (.iload_n 2, 1) := by decide +kernel
theorem dX9_tell_14 : decode cX9_tell 14 = .ok (.iconst 1, 1) := by decide +kernel
theorem dX9_tell_15 : decode cX9_tell 15 = .ok (.iadd, 1) := by decide +kernel
theorem dX9_tell_16 : decode cX9_tell 16 = .ok (.if_icmp .ne 37, 3) := by decide +kernel
theorem dX9_tell_19 : decode cX9_tell 19 = .ok (.aload_n 0, 1) := by decide +kernel
theorem dX9_tell_20 : decode cX9_tell 20 = .ok (.getfield 7, 3) := by decide +kernel
theorem dX9_tell_23 : decode cX9_tell 23 = .ok (.iconst 4, 1) := by decide +kernel
theorem dX9_tell_24 : decode cX9_tell 24 = .ok (.iaload, 1) := by decide +kernel
theorem dX9_tell_25 : decode cX9_tell 25 = .ok (.aload_n 0, 1) := by decide +kernel
theorem dX9_tell_26 : decode cX9_tell 26 = .ok (.getfield 7, 3) := by decide +kernel
theorem dX9_tell_29 : decode cX9_tell 29 = .ok (.iload_n 3, 1) := by decide +kernel
theorem dX9_tell_30 : decode cX9_tell 30 = .ok (.iconst 5, 1) := by decide +kernel
theorem dX9_tell_31 : decode cX9_tell 31 = .ok (.iadd, 1) := by decide +kernel
theorem dX9_tell_32 : decode cX9_tell 32 = .ok (.iaload, 1) := by decide +kernel
theorem dX9_tell_33 : decode cX9_tell 33 = .ok (.isub, 1) := by decide +kernel
theorem dX9_tell_34 : decode cX9_tell 34 = .ok (.bipush 17, 2) := by decide +kernel
theorem dX9_tell_36 : decode cX9_tell 36 = .ok (.if_icmp .gt 17, 3) := by decide +kernel
theorem dX9_tell_39 : decode cX9_tell 39 = .ok (.aload_n 0, 1) := by decide +kernel
theorem dX9_tell_40 : decode cX9_tell 40 = .ok (.getfield 7, 3) := by decide +kernel
theorem dX9_tell_43 : decode cX9_tell 43 = .ok (.bipush 8, 2) := by decide +kernel
theorem dX9_tell_45 : decode cX9_tell 45 = .ok (.dup2, 1) := by decide +kernel
theorem dX9_tell_46 : decode cX9_tell 46 = .ok (.iaload, 1) := by decide +kernel
theorem dX9_tell_47 : decode cX9_tell 47 = .ok (.iconst 1, 1) := by decide +kernel
theorem dX9_tell_48 : decode cX9_tell 48 = .ok (.iadd, 1) := by decide +kernel
theorem dX9_tell_49 : decode cX9_tell 49 = .ok (.iastore, 1) := by decide +kernel
theorem dX9_tell_50 : decode cX9_tell 50 = .ok (.goto 31, 3) := by decide +kernel
theorem dX9_tell_53 : decode cX9_tell 53 = .ok (.aload_n 0, 1) := by decide +kernel
theorem dX9_tell_54 : decode cX9_tell 54 = .ok (.getfield 7, 3) := by decide +kernel
theorem dX9_tell_57 : decode cX9_tell 57 = .ok (.bipush 7, 2) := by decide +kernel
theorem dX9_tell_59 : decode cX9_tell 59 = .ok (.dup2, 1) := by decide +kernel
theorem dX9_tell_60 : decode cX9_tell 60 = .ok (.iaload, 1) := by decide +kernel
theorem dX9_tell_61 : decode cX9_tell 61 = .ok (.iconst 1, 1) := by decide +kernel
theorem dX9_tell_62 : decode cX9_tell 62 = .ok (.iadd, 1) := by decide +kernel
theorem dX9_tell_63 : decode cX9_tell 63 = .ok (.iastore, 1) := by decide +kernel
theorem dX9_tell_64 : decode cX9_tell 64 = .ok (.aload_n 0, 1) := by decide +kernel
theorem dX9_tell_65 : decode cX9_tell 65 = .ok (.getfield 7, 3) := by decide +kernel
theorem dX9_tell_68 : decode cX9_tell 68 = .ok (.iload_n 3, 1) := by decide +kernel
theorem dX9_tell_69 : decode cX9_tell 69 = .ok (.iconst 4, 1) := by decide +kernel
theorem dX9_tell_70 : decode cX9_tell 70 = .ok (.iadd, 1) := by decide +kernel
theorem dX9_tell_71 : decode cX9_tell 71 = .ok (.iload_n 2, 1) := by decide +kernel
theorem dX9_tell_72 : decode cX9_tell 72 = .ok (.iconst 1, 1) := by decide +kernel
theorem dX9_tell_73 : decode cX9_tell 73 = .ok (.iadd, 1) := by decide +kernel
theorem dX9_tell_74 : decode cX9_tell 74 = .ok (.iastore, 1) := by decide +kernel
theorem dX9_tell_75 : decode cX9_tell 75 = .ok (.aload_n 0, 1) := by decide +kernel
theorem dX9_tell_76 : decode cX9_tell 76 = .ok (.iload_n 1, 1) := by decide +kernel
theorem dX9_tell_77 : decode cX9_tell 77 = .ok (.iload_n 2, 1) := by decide +kernel
theorem dX9_tell_78 : decode cX9_tell 78 = .ok (.invokevirtual 94, 3) := by decide +kernel
theorem dX9_tell_81 : decode cX9_tell 81 = .ok (.aload_n 0, 1) := by decide +kernel
theorem dX9_tell_82 : decode cX9_tell 82 = .ok (.getfield 7, 3) := by decide +kernel
theorem dX9_tell_85 : decode cX9_tell 85 = .ok (.iload_n 3, 1) := by decide +kernel
theorem dX9_tell_86 : decode cX9_tell 86 = .ok (.iconst 5, 1) := by decide +kernel
theorem dX9_tell_87 : decode cX9_tell 87 = .ok (.iadd, 1) := by decide +kernel
theorem dX9_tell_88 : decode cX9_tell 88 = .ok (.aload_n 0, 1) := by decide +kernel
theorem dX9_tell_89 : decode cX9_tell 89 = .ok (.getfield 7, 3) := by decide +kernel
theorem dX9_tell_92 : decode cX9_tell 92 = .ok (.iconst 4, 1) := by decide +kernel
theorem dX9_tell_93 : decode cX9_tell 93 = .ok (.iaload, 1) := by decide +kernel
theorem dX9_tell_94 : decode cX9_tell 94 = .ok (.iastore, 1) := by decide +kernel
theorem dX9_tell_95 : decode cX9_tell 95 = .ok (.return_, 1) := by decide +kernel
theorem dX9_listenAgain_0 : decode cX9_listenAgain 0 = .ok (.aload_n 0, 1) := by decide +kernel
theorem dX9_listenAgain_1 : decode cX9_listenAgain 1 = .ok (.getfield 7, 3) := by decide +kernel
theorem dX9_listenAgain_4 : decode cX9_listenAgain 4 = .ok (.iload_n 1, 1) := by decide +kernel
theorem dX9_listenAgain_5 : decode cX9_listenAgain 5 = .ok (.iconst 0, 1) := by decide +kernel
theorem dX9_listenAgain_6 : decode cX9_listenAgain 6 = .ok (.iadd, 1) := by decide +kernel
theorem dX9_listenAgain_7 : decode cX9_listenAgain 7 = .ok (.iconst 0, 1) := by decide +kernel
theorem dX9_listenAgain_8 : decode cX9_listenAgain 8 = .ok (.iastore, 1) := by decide +kernel
theorem dX9_listenAgain_9 : decode cX9_listenAgain 9 = .ok (.aload_n 0, 1) := by decide +kernel
theorem dX9_listenAgain_10 : decode cX9_listenAgain 10 = .ok (.getfield 7, 3) := by decide +kernel
theorem dX9_listenAgain_13 : decode cX9_listenAgain 13 = .ok (.iload_n 1, 1) := by decide +kernel
theorem dX9_listenAgain_14 : decode cX9_listenAgain 14 = .ok (.iconst 1, 1) := by decide +kernel
theorem dX9_listenAgain_15 : decode cX9_listenAgain 15 = .ok (.iadd, 1) := by decide +kernel
theorem dX9_listenAgain_16 : decode cX9_listenAgain 16 = .ok (.iconst 0, 1) := by decide +kernel
theorem dX9_listenAgain_17 : decode cX9_listenAgain 17 = .ok (.iastore, 1) := by decide +kernel
theorem dX9_listenAgain_18 : decode cX9_listenAgain 18 = .ok (.aload_n 0, 1) := by decide +kernel
theorem dX9_listenAgain_19 : decode cX9_listenAgain 19 = .ok (.getfield 7, 3) := by decide +kernel
theorem dX9_listenAgain_22 : decode cX9_listenAgain 22 = .ok (.iload_n 1, 1) := by decide +kernel
theorem dX9_listenAgain_23 : decode cX9_listenAgain 23 = .ok (.iconst 2, 1) := by decide +kernel
theorem dX9_listenAgain_24 : decode cX9_listenAgain 24 = .ok (.iadd, 1) := by decide +kernel
theorem dX9_listenAgain_25 : decode cX9_listenAgain 25 = .ok (.iconst 0, 1) := by decide +kernel
theorem dX9_listenAgain_26 : decode cX9_listenAgain 26 = .ok (.iastore, 1) := by decide +kernel
theorem dX9_listenAgain_27 : decode cX9_listenAgain 27 = .ok (.aload_n 0, 1) := by decide +kernel
theorem dX9_listenAgain_28 : decode cX9_listenAgain 28 = .ok (.getfield 7, 3) := by decide +kernel
theorem dX9_listenAgain_31 : decode cX9_listenAgain 31 = .ok (.iload_n 1, 1) := by decide +kernel
theorem dX9_listenAgain_32 : decode cX9_listenAgain 32 = .ok (.iconst 3, 1) := by decide +kernel
theorem dX9_listenAgain_33 : decode cX9_listenAgain 33 = .ok (.iadd, 1) := by decide +kernel
theorem dX9_listenAgain_34 : decode cX9_listenAgain 34 = .ok (.iconst 0, 1) := by decide +kernel
theorem dX9_listenAgain_35 : decode cX9_listenAgain 35 = .ok (.iastore, 1) := by decide +kernel
theorem dX9_listenAgain_36 : decode cX9_listenAgain 36 = .ok (.return_, 1) := by decide +kernel
set_option maxRecDepth 20000 in
theorem ggX9_take_X9_r : GoodIn wsX9_take wsX9_r := goodIn_r _ [6] (by decide +kernel) (by decide +kernel)
set_option maxRecDepth 20000 in
theorem gX9_take_X9_r : GoodIn wsX9_take (va_wsS RX9 42 yX9_r wsX9_r) := goodIn_app (goodIn_of _ (by decide +kernel)) ggX9_take_X9_r
set_option maxRecDepth 20000 in
theorem ggX9_take_X9_listenAgain : GoodIn wsX9_take wsX9_listenAgain := goodIn_r _ [10, 1, 33, 34, 35, 36, 37, 38, 39, 40, 41, 42, 43, 44, 45, 46, 47] (by decide +kernel) (by decide +kernel)
set_option maxRecDepth 20000 in
theorem gX9_take_X9_listenAgain : GoodIn wsX9_take (wsV RX9 97 RX9 yX9_listenAgain wsX9_listenAgain) := goodIn_app (goodIn_of _ (by decide +kernel)) ggX9_take_X9_listenAgain
set_option maxRecDepth 20000 in
theorem ggX9_take_X9_tell : GoodIn wsX9_take wsX9_tell := goodIn_r _ [14, 1, 3, 4, 5, 6, 15, 16, 17, 18, 19, 20, 21, 22, 23, 24, 25, 26, 27, 28, 29, 30, 31, 32, 33, 34, 35, 36, 37, 38, 39, 40, 41, 42, 43, 44, 45, 46, 47] (by decide +kernel) (by decide +kernel)
set_option maxRecDepth 20000 in
theorem gX9_take_X9_tell : GoodIn wsX9_take (wsV RX9 100 RX9 yX9_tell wsX9_tell) := goodIn_app (goodIn_of _ (by decide +kernel)) ggX9_take_X9_tell
theorem dX9_take_0 : decode cX9_take 0 = .ok (.iload_n 1, 1) := by decide +kernel
theorem dX9_take_1 : decode cX9_take 1 = .ok (.invokestatic 42, 3) := by decide +kernel
theorem dX9_take_4 : decode cX9_take 4 = .ok (.istore_n 2, 1) := by decide +kernel
theorem dX9_take_5 : decode cX9_take 5 = .ok (.aload_n 0, 1) := by decide +kernel
theorem dX9_take_6 : decode cX9_take 6 = .ok (.getfield 7, 3) := by decide +kernel
theorem dX9_take_9 : decode cX9_take 9 = .ok (.iload_n 2, 1) := by decide +kernel
theorem dX9_take_10 : decode cX9_take 10 = .ok (.iconst 0, 1) := by decide +kernel
theorem dX9_take_11 : decode cX9_take 11 = .ok (.iadd, 1) := by decide +kernel
theorem dX9_take_12 : decode cX9_take 12 = .ok (.iaload, 1) := by decide +kernel
theorem dX9_take_13 : decode cX9_take 13 = .ok (.ifCond .ne 58, 3) := by decide +kernel
theorem dX9_take_16 : decode cX9_take 16 = .ok (.aload_n 0, 1) := by decide +kernel
theorem dX9_take_17 : decode cX9_take 17 = .ok (.getfield 7, 3) := by decide +kernel
theorem dX9_take_20 : decode cX9_take 20 = .ok (.iload_n 2, 1) := by decide +kernel
theorem dX9_take_21 : decode cX9_take 21 = .ok (.iconst 1, 1) := by decide +kernel
theorem dX9_take_22 : decode cX9_take 22 = .ok (.iadd, 1) := by decide +kernel
theorem dX9_take_23 : decode cX9_take 23 = .ok (.aload_n 0, 1) := by decide +kernel
theorem dX9_take_24 : decode cX9_take 24 = .ok (.getfield 7, 3) := by decide +kernel
theorem dX9_take_27 : decode cX9_take 27 = .ok (.iload_n 2, 1) := by decide +kernel
theorem dX9_take_28 : decode cX9_take 28 = .ok (.iconst 1, 1) := by decide +kernel
theorem dX9_take_29 : decode cX9_take 29 = .ok (.iadd, 1) := by decide +kernel
theorem dX9_take_30 : decode cX9_take 30 = .ok (.iaload, 1) := by decide +kernel
theorem dX9_take_31 : decode cX9_take 31 = .ok (.iconst 2, 1) := by decide +kernel
theorem dX9_take_32 : decode cX9_take 32 = .ok (.imul, 1) := by decide +kernel
theorem dX9_take_33 : decode cX9_take 33 = .ok (.bipush 16, 2) := by decide +kernel
theorem dX9_take_35 : decode cX9_take 35 = .ok (.irem, 1) := by decide +kernel
theorem dX9_take_36 : decode cX9_take 36 = .ok (.aload_n 0, 1) := by decide +kernel
theorem dX9_take_37 : decode cX9_take 37 = .ok (.getfield 25, 3) := by decide +kernel
theorem dX9_take_40 : decode cX9_take 40 = .ok (.iload_n 1, 1) := by decide +kernel
theorem dX9_take_41 : decode cX9_take 41 = .ok (.iaload, 1) := by decide +kernel
theorem dX9_take_42 : decode cX9_take 42 = .ok (.iadd, 1) := by decide +kernel
theorem dX9_take_43 : decode cX9_take 43 = .ok (.iastore, 1) := by decide +kernel
theorem dX9_take_44 : decode cX9_take 44 = .ok (.aload_n 0, 1) := by decide +kernel
theorem dX9_take_45 : decode cX9_take 45 = .ok (.getfield 7, 3) := by decide +kernel
theorem dX9_take_48 : decode cX9_take 48 = .ok (.iload_n 2, 1) := by decide +kernel
theorem dX9_take_49 : decode cX9_take 49 = .ok (.iconst 0, 1) := by decide +kernel
theorem dX9_take_50 : decode cX9_take 50 = .ok (.iadd, 1) := by decide +kernel
theorem dX9_take_51 : decode cX9_take 51 = .ok (.aload_n 0, 1) := by decide +kernel
theorem dX9_take_52 : decode cX9_take 52 = .ok (.getfield 7, 3) := by decide +kernel
theorem dX9_take_55 : decode cX9_take 55 = .ok (.iload_n 2, 1) := by decide +kernel
theorem dX9_take_56 : decode cX9_take 56 = .ok (.iconst 1, 1) := by decide +kernel
theorem dX9_take_57 : decode cX9_take 57 = .ok (.iadd, 1) := by decide +kernel
theorem dX9_take_58 : decode cX9_take 58 = .ok (.iaload, 1) := by decide +kernel
theorem dX9_take_59 : decode cX9_take 59 = .ok (.bipush 14, 2) := by decide +kernel
theorem dX9_take_61 : decode cX9_take 61 = .ok (.if_icmp .ne 7, 3) := by decide +kernel
theorem dX9_take_64 : decode cX9_take 64 = .ok (.iconst 1, 1) := by decide +kernel
theorem dX9_take_65 : decode cX9_take 65 = .ok (.goto 4, 3) := by decide +kernel
theorem dX9_take_68 : decode cX9_take 68 = .ok (.iconst 0, 1) := by decide +kernel
theorem dX9_take_69 : decode cX9_take 69 = .ok (.iastore, 1) := by decide +kernel
theorem dX9_take_70 : decode cX9_take 70 = .ok (.return_, 1) := by decide +kernel
theorem dX9_take_71 : decode cX9_take 71 = .ok (.aload_n 0, 1) := by decide +kernel
theorem dX9_take_72 : decode cX9_take 72 = .ok (.getfield 7, 3) := by decide +kernel
theorem dX9_take_75 : decode cX9_take 75 = .ok (.iload_n 2, 1) := by decide +kernel
theorem dX9_take_76 : decode cX9_take 76 = .ok (.iconst 2, 1) := by decide +kernel
theorem dX9_take_77 : decode cX9_take 77 = .ok (.iadd, 1) := by decide +kernel
theorem dX9_take_78 : decode cX9_take 78 = .ok (.dup2, 1) := by decide +kernel
theorem dX9_take_79 : decode cX9_take 79 = .ok (.iaload, 1) := by decide +kernel
theorem dX9_take_80 : decode cX9_take 80 = .ok (.iconst 1, 1) := by decide +kernel
theorem dX9_take_81 : decode cX9_take 81 = .ok (.iadd, 1) := by decide +kernel
theorem dX9_take_82 : decode cX9_take 82 = .ok (.iastore, 1) := by decide +kernel
theorem dX9_take_83 : decode cX9_take 83 = .ok (.aload_n 0, 1) := by decide +kernel
theorem dX9_take_84 : decode cX9_take 84 = .ok (.getfield 7, 3) := by decide +kernel
theorem dX9_take_87 : decode cX9_take 87 = .ok (.iload_n 2, 1) := by decide +kernel
theorem dX9_take_88 : decode cX9_take 88 = .ok (.iconst 3, 1) := by decide +kernel
theorem dX9_take_89 : decode cX9_take 89 = .ok (.iadd, 1) := by decide +kernel
theorem dX9_take_90 : decode cX9_take 90 = .ok (.iconst 2, 1) := by decide +kernel
theorem dX9_take_91 : decode cX9_take 91 = .ok (.aload_n 0, 1) := by decide +kernel
theorem dX9_take_92 : decode cX9_take 92 = .ok (.getfield 7, 3) := by decide +kernel
theorem dX9_take_95 : decode cX9_take 95 = .ok (.iload_n 2, 1) := by decide +kernel
theorem dX9_take_96 : decode cX9_take 96 = .ok (.iconst 3, 1) := by decide +kernel
theorem dX9_take_97 : decode cX9_take 97 = .ok (.iadd, 1) := by decide +kernel
theorem dX9_take_98 : decode cX9_take 98 = .ok (.iaload, 1) := by decide +kernel
theorem dX9_take_99 : decode cX9_take 99 = .ok (.imul, 1) := by decide +kernel
theorem dX9_take_100 : decode cX9_take 100 = .ok (.aload_n 0, 1) := by decide +kernel
theorem dX9_take_101 : decode cX9_take 101 = .ok (.getfield 25, 3) := by decide +kernel
theorem dX9_take_104 : decode cX9_take 104 = .ok (.iload_n 1, 1) := by decide +kernel
theorem dX9_take_105 : decode cX9_take 105 = .ok (.iaload, 1) := by decide +kernel
theorem dX9_take_106 : decode cX9_take 106 = .ok (.iadd, 1) := by decide +kernel
theorem dX9_take_107 : decode cX9_take 107 = .ok (.iastore, 1) := by decide +kernel
theorem dX9_take_108 : decode cX9_take 108 = .ok (.aload_n 0, 1) := by decide +kernel
theorem dX9_take_109 : decode cX9_take 109 = .ok (.getfield 7, 3) := by decide +kernel
theorem dX9_take_112 : decode cX9_take 112 = .ok (.iload_n 2, 1) := by decide +kernel
theorem dX9_take_113 : decode cX9_take 113 = .ok (.iconst 3, 1) := by decide +kernel
theorem dX9_take_114 : decode cX9_take 114 = .ok (.iadd, 1) := by decide +kernel
theorem dX9_take_115 : decode cX9_take 115 = .ok (.iaload, 1) := by decide +kernel
theorem dX9_take_116 : decode cX9_take 116 = .ok (.iconst 4, 1) := by decide +kernel
theorem dX9_take_117 : decode cX9_take 117 = .ok (.irem, 1) := by decide +kernel
theorem dX9_take_118 : decode cX9_take 118 = .ok (.istore_n 3, 1) := by decide +kernel
theorem dX9_take_119 : decode cX9_take 119 = .ok (.aload_n 0, 1) := by decide +kernel
theorem dX9_take_120 : decode cX9_take 120 = .ok (.getfield 7, 3) := by decide +kernel
theorem dX9_take_123 : decode cX9_take 123 = .ok (.iload_n 2, 1) := by decide +kernel
theorem dX9_take_124 : decode cX9_take 124 = .ok (.iconst 2, 1) := by decide +kernel
theorem dX9_take_125 : decode cX9_take 125 = .ok (.iadd, 1) := by decide +kernel
theorem dX9_take_126 : decode cX9_take 126 = .ok (.iaload, 1) := by decide +kernel
theorem dX9_take_127 : decode cX9_take 127 = .ok (.iconst 2, 1) := by decide +kernel
theorem dX9_take_128 : decode cX9_take 128 = .ok (.irem, 1) := by decide +kernel
theorem dX9_take_129 : decode cX9_take 129 = .ok (.ifCond .ne 31, 3) := by decide +kernel
theorem dX9_take_132 : decode cX9_take 132 = .ok (.iload_n 3, 1) := by decide +kernel
theorem dX9_take_133 : decode cX9_take 133 = .ok (.ifCond .eq 8, 3) := by decide +kernel
theorem dX9_take_136 : decode cX9_take 136 = .ok (.iload_n 3, 1) := by decide +kernel
theorem dX9_take_137 : decode cX9_take 137 = .ok (.iconst 3, 1) := by decide +kernel
theorem dX9_take_138 : decode cX9_take 138 = .ok (.if_icmp .ne 22, 3) := by decide +kernel
theorem dX9_take_141 : decode cX9_take 141 = .ok (.aload_n 0, 1) := by decide +kernel
theorem dX9_take_142 : decode cX9_take 142 = .ok (.getfield 7, 3) := by decide +kernel
theorem dX9_take_145 : decode cX9_take 145 = .ok (.bipush 9, 2) := by decide +kernel
theorem dX9_take_147 : decode cX9_take 147 = .ok (.dup2, 1) := by decide +kernel
theorem dX9_take_148 : decode cX9_take 148 = .ok (.iaload, 1) := by decide +kernel
theorem dX9_take_149 : decode cX9_take 149 = .ok (.iconst 1, 1) := by decide +kernel
theorem dX9_take_150 : decode cX9_take 150 = .ok (.iadd, 1) := by decide +kernel
theorem dX9_take_151 : decode cX9_take 151 = .ok (.iastore, 1) := by decide +kernel
theorem dX9_take_152 : decode cX9_take 152 = .ok (.aload_n 0, 1) := by decide +kernel
theorem dX9_take_153 : decode cX9_take 153 = .ok (.iload_n 2, 1) := by decide +kernel
theorem dX9_take_154 : decode cX9_take 154 = .ok (.invokevirtual 97, 3) := by decide +kernel
theorem dX9_take_157 : decode cX9_take 157 = .ok (.goto 71, 3) := by decide +kernel
theorem dX9_take_160 : decode cX9_take 160 = .ok (.aload_n 0, 1) := by decide +kernel
theorem dX9_take_161 : decode cX9_take 161 = .ok (.getfield 7, 3) := by decide +kernel
theorem dX9_take_164 : decode cX9_take 164 = .ok (.iload_n 2, 1) := by decide +kernel
theorem dX9_take_165 : decode cX9_take 165 = .ok (.iconst 2, 1) := by decide +kernel
theorem dX9_take_166 : decode cX9_take 166 = .ok (.iadd, 1) := by decide +kernel
theorem dX9_take_167 : decode cX9_take 167 = .ok (.iaload, 1) := by decide +kernel
theorem dX9_take_168 : decode cX9_take 168 = .ok (.bipush 10, 2) := by decide +kernel
theorem dX9_take_170 : decode cX9_take 170 = .ok (.if_icmp .ne 58, 3) := by decide +kernel
theorem dX9_take_173 : decode cX9_take 173 = .ok (.iconst 0, 1) := by decide +kernel
theorem dX9_take_174 : decode cX9_take 174 = .ok (.istore 4, 2) := by decide +kernel
theorem dX9_take_176 : decode cX9_take 176 = .ok (.iconst 0, 1) := by decide +kernel
theorem dX9_take_177 : decode cX9_take 177 = .ok (.istore 5, 2) := by decide +kernel
theorem dX9_take_179 : decode cX9_take 179 = .ok (.iload 5, 2) := by decide +kernel
theorem dX9_take_181 : decode cX9_take 181 = .ok (.iconst 5, 1) := by decide +kernel
theorem dX9_take_182 : decode cX9_take 182 = .ok (.if_icmp .ge 34, 3) := by decide +kernel
theorem dX9_take_185 : decode cX9_take 185 = .ok (.iconst 2, 1) := by decide +kernel
theorem dX9_take_186 : decode cX9_take 186 = .ok (.iload 4, 2) := by decide +kernel
theorem dX9_take_188 : decode cX9_take 188 = .ok (.imul, 1) := by decide +kernel
theorem dX9_take_189 : decode cX9_take 189 = .ok (.aload_n 0, 1) := by decide +kernel
theorem dX9_take_190 : decode cX9_take 190 = .ok (.getfield 7, 3) := by decide +kernel
theorem dX9_take_193 : decode cX9_take 193 = .ok (.iload_n 2, 1) := by decide +kernel
theorem dX9_take_194 : decode cX9_take 194 = .ok (.iconst 3, 1) := by decide +kernel
theorem dX9_take_195 : decode cX9_take 195 = .ok (.iadd, 1) := by decide +kernel
theorem dX9_take_196 : decode cX9_take 196 = .ok (.iaload, 1) := by decide +kernel
theorem dX9_take_197 : decode cX9_take 197 = .ok (.bipush 9, 2) := by decide +kernel
theorem dX9_take_199 : decode cX9_take 199 = .ok (.iconst 2, 1) := by decide +kernel
theorem dX9_take_200 : decode cX9_take 200 = .ok (.iload 5, 2) := by decide +kernel
theorem dX9_take_202 : decode cX9_take 202 = .ok (.imul, 1) := by decide +kernel
theorem dX9_take_203 : decode cX9_take 203 = .ok (.isub, 1) := by decide +kernel
theorem dX9_take_204 : decode cX9_take 204 = .ok (.ishr, 1) := by decide +kernel
theorem dX9_take_205 : decode cX9_take 205 = .ok (.iconst 1, 1) := by decide +kernel
theorem dX9_take_206 : decode cX9_take 206 = .ok (.iand, 1) := by decide +kernel
theorem dX9_take_207 : decode cX9_take 207 = .ok (.iadd, 1) := by decide +kernel
theorem dX9_take_208 : decode cX9_take 208 = .ok (.istore 4, 2) := by decide +kernel
theorem dX9_take_210 : decode cX9_take 210 = .ok (.iinc 5 1, 3) := by decide +kernel
theorem dX9_take_213 : decode cX9_take 213 = .ok (.goto (-34), 3) := by decide +kernel
theorem dX9_take_216 : decode cX9_take 216 = .ok (.aload_n 0, 1) := by decide +kernel
theorem dX9_take_217 : decode cX9_take 217 = .ok (.iload_n 1, 1) := by decide +kernel
theorem dX9_take_218 : decode cX9_take 218 = .ok (.iload 4, 2) := by decide +kernel
theorem dX9_take_220 : decode cX9_take 220 = .ok (.invokevirtual 100, 3) := by decide +kernel
theorem dX9_take_223 : decode cX9_take 223 = .ok (.aload_n 0, 1) := by decide +kernel
theorem dX9_take_224 : decode cX9_take 224 = .ok (.iload_n 2, 1) := by decide +kernel
theorem dX9_take_225 : decode cX9_take 225 = .ok (.invokevirtual 97, 3) := by decide +kernel
theorem dX9_take_228 : decode cX9_take 228 = .ok (.return_, 1) := by decide +kernel
set_option maxRecDepth 20000 in
theorem ggX9_beat_X9_begin : GoodIn wsX9_beat wsX9_begin := goodIn_r _ [6, 1, 7, 8, 9, 5, 10, 11, 12, 13, 14, 15, 16, 17, 18, 19, 20, 84, 85, 86, 87, 88, 89, 90, 91, 92, 93, 94, 95, 96, 97, 98] (by decide +kernel) (by decide +kernel)
set_option maxRecDepth 20000 in
theorem gX9_beat_X9_begin : GoodIn wsX9_beat (wsV RX9 103 RX9 yX9_begin wsX9_begin) := goodIn_app (goodIn_of _ (by decide +kernel)) ggX9_beat_X9_begin
set_option maxRecDepth 20000 in
theorem ggX9_beat_X9_send : GoodIn wsX9_beat wsX9_send := goodIn_r _ [24, 25, 1, 26, 14, 15, 16, 5, 17, 18, 19, 20, 8, 9, 10, 27, 28, 29, 30, 31, 32, 33, 34, 35, 36, 37, 38, 39, 40, 41, 42, 43, 44, 45, 46, 47, 48, 84, 85, 86, 87, 88, 89, 90, 91, 92, 93, 94, 95, 96, 97, 98] (by decide +kernel) (by decide +kernel)
set_option maxRecDepth 20000 in
theorem gX9_beat_X9_send : GoodIn wsX9_beat (wsV RX9 106 RX9 yX9_send wsX9_send) := goodIn_app (goodIn_of _ (by decide +kernel)) ggX9_beat_X9_send
set_option maxRecDepth 20000 in
theorem ggX9_beat_X9_isSender : GoodIn wsX9_beat wsX9_isSender := goodIn_r _ [17, 1, 18, 19, 5, 20, 8, 9, 10, 84, 85, 86, 87, 88, 89, 90, 91, 92, 93, 94, 95, 96, 97, 98] (by decide +kernel) (by decide +kernel)
set_option maxRecDepth 20000 in
theorem gX9_beat_X9_isSender : GoodIn wsX9_beat (wsV RX9 67 RX9 yX9_isSender wsX9_isSender) := goodIn_app (goodIn_of _ (by decide +kernel)) ggX9_beat_X9_isSender
set_option maxRecDepth 20000 in
theorem ggX9_beat_X9_n : GoodIn wsX9_beat wsX9_n := goodIn_r _ [10] (by decide +kernel) (by decide +kernel)
set_option maxRecDepth 20000 in
theorem gX9_beat_X9_n : GoodIn wsX9_beat (va_wsS RX9 50 yX9_n wsX9_n) := goodIn_app (goodIn_of _ (by decide +kernel)) ggX9_beat_X9_n
set_option maxRecDepth 20000 in
theorem ggX9_beat_X9_goOn : GoodIn wsX9_beat wsX9_goOn := goodIn_r _ [52, 1, 26, 25, 8, 9, 5, 10, 53, 54, 55, 56, 84, 85, 86, 87, 88, 89, 90, 91, 92, 93, 94, 95, 96, 97, 98] (by decide +kernel) (by decide +kernel)
set_option maxRecDepth 20000 in
theorem gX9_beat_X9_goOn : GoodIn wsX9_beat (wsV RX9 109 RX9 yX9_goOn wsX9_goOn) := goodIn_app (goodIn_of _ (by decide +kernel)) ggX9_beat_X9_goOn
set_option maxRecDepth 20000 in
theorem ggX9_beat_X9_take : GoodIn wsX9_beat wsX9_take := goodIn_r _ [60, 1, 25, 11, 12, 5, 13, 61, 62, 63, 64, 65, 66, 67, 68, 69, 70, 71, 72, 73, 74, 75, 76, 77, 78, 79, 80, 81, 82, 83, 18, 19, 20, 84, 85, 86, 87, 88, 89, 90, 91, 92, 93, 94, 95, 96, 97, 98] (by decide +kernel) (by decide +kernel)
set_option maxRecDepth 20000 in
theorem gX9_beat_X9_take : GoodIn wsX9_beat (wsV RX9 112 RX9 yX9_take wsX9_take) := goodIn_app (goodIn_of _ (by decide +kernel)) ggX9_beat_X9_take
theorem dX9_beat_0 : decode cX9_beat 0 = .ok (.aload_n 0, 1) := by decide +kernel
theorem dX9_beat_1 : decode cX9_beat 1 = .ok (.invokevirtual 103, 3) := by decide +kernel
theorem dX9_beat_4 : decode cX9_beat 4 = .ok (.aload_n 0, 1) := by decide +kernel
theorem dX9_beat_5 : decode cX9_beat 5 = .ok (.invokevirtual 106, 3) := by decide +kernel
theorem dX9_beat_8 : decode cX9_beat 8 = .ok (.iconst 0, 1) := by decide +kernel
theorem dX9_beat_9 : decode cX9_beat 9 = .ok (.istore_n 1, 1) := by decide +kernel
theorem dX9_beat_10 : decode cX9_beat 10 = .ok (.iload_n 1, 1) := by decide +kernel
theorem dX9_beat_11 : decode cX9_beat 11 = .ok (.iconst 5, 1) := by decide +kernel
theorem dX9_beat_12 : decode cX9_beat 12 = .ok (.if_icmp .ge 37, 3) := by decide +kernel
theorem dX9_beat_15 : decode cX9_beat 15 = .ok (.aload_n 0, 1) := by decide +kernel
theorem dX9_beat_16 : decode cX9_beat 16 = .ok (.iload_n 1, 1) := by decide +kernel
theorem dX9_beat_17 : decode cX9_beat 17 = .ok (.invokevirtual 67, 3) := by decide +kernel
theorem dX9_beat_20 : decode cX9_beat 20 = .ok (.ifCond .eq 23, 3) := by decide +kernel
theorem dX9_beat_23 : decode cX9_beat 23 = .ok (.aload_n 0, 1) := by decide +kernel
theorem dX9_beat_24 : decode cX9_beat 24 = .ok (.getfield 7, 3) := by decide +kernel
theorem dX9_beat_27 : decode cX9_beat 27 = .ok (.iload_n 1, 1) := by decide +kernel
theorem dX9_beat_28 : decode cX9_beat 28 = .ok (.invokestatic 50, 3) := by decide +kernel
theorem dX9_beat_31 : decode cX9_beat 31 = .ok (.iconst 4, 1) := by decide +kernel
theorem dX9_beat_32 : decode cX9_beat 32 = .ok (.iadd, 1) := by decide +kernel
theorem dX9_beat_33 : decode cX9_beat 33 = .ok (.iaload, 1) := by decide +kernel
theorem dX9_beat_34 : decode cX9_beat 34 = .ok (.iconst 1, 1) := by decide +kernel
theorem dX9_beat_35 : decode cX9_beat 35 = .ok (.if_icmp .ne 8, 3) := by decide +kernel
theorem dX9_beat_38 : decode cX9_beat 38 = .ok (.aload_n 0, 1) := by decide +kernel
theorem dX9_beat_39 : decode cX9_beat 39 = .ok (.iload_n 1, 1) := by decide +kernel
theorem dX9_beat_40 : decode cX9_beat 40 = .ok (.invokevirtual 109, 3) := by decide +kernel
theorem dX9_beat_43 : decode cX9_beat 43 = .ok (.iinc 1 1, 3) := by decide +kernel
theorem dX9_beat_46 : decode cX9_beat 46 = .ok (.goto (-36), 3) := by decide +kernel
theorem dX9_beat_49 : decode cX9_beat 49 = .ok (.iconst 0, 1) := by decide +kernel
theorem dX9_beat_50 : decode cX9_beat 50 = .ok (.istore_n 1, 1) := by decide +kernel
theorem dX9_beat_51 : decode cX9_beat 51 = .ok (.iload_n 1, 1) := by decide +kernel
theorem dX9_beat_52 : decode cX9_beat 52 = .ok (.bipush 6, 2) := by decide +kernel
theorem dX9_beat_54 : decode cX9_beat 54 = .ok (.if_icmp .ge 14, 3) := by decide +kernel
theorem dX9_beat_57 : decode cX9_beat 57 = .ok (.aload_n 0, 1) := by decide +kernel
theorem dX9_beat_58 : decode cX9_beat 58 = .ok (.iload_n 1, 1) := by decide +kernel
theorem dX9_beat_59 : decode cX9_beat 59 = .ok (.invokevirtual 112, 3) := by decide +kernel
theorem dX9_beat_62 : decode cX9_beat 62 = .ok (.iinc 1 1, 3) := by decide +kernel
theorem dX9_beat_65 : decode cX9_beat 65 = .ok (.goto (-14), 3) := by decide +kernel
theorem dX9_beat_68 : decode cX9_beat 68 = .ok (.aload_n 0, 1) := by decide +kernel
theorem dX9_beat_69 : decode cX9_beat 69 = .ok (.getfield 7, 3) := by decide +kernel
theorem dX9_beat_72 : decode cX9_beat 72 = .ok (.iconst 4, 1) := by decide +kernel
theorem dX9_beat_73 : decode cX9_beat 73 = .ok (.dup2, 1) := by decide +kernel
theorem dX9_beat_74 : decode cX9_beat 74 = .ok (.iaload, 1) := by decide +kernel
theorem dX9_beat_75 : decode cX9_beat 75 = .ok (.iconst 1, 1) := by decide +kernel
theorem dX9_beat_76 : decode cX9_beat 76 = .ok (.iadd, 1) := by decide +kernel
theorem dX9_beat_77 : decode cX9_beat 77 = .ok (.iastore, 1) := by decide +kernel
theorem dX9_beat_78 : decode cX9_beat 78 = .ok (.return_, 1) := by decide +kernel
set_option maxRecDepth 20000 in
theorem ggX9_says_X9_isSender : GoodIn wsX9_says wsX9_isSender := goodIn_r _ [6, 1, 7, 8, 5, 9, 10, 11, 12, 13, 14, 15, 16, 17, 18, 19, 20, 21, 22, 23, 24, 25, 26, 27] (by decide +kernel) (by decide +kernel)
set_option maxRecDepth 20000 in
theorem gX9_says_X9_isSender : GoodIn wsX9_says (wsV RX9 67 RX9 yX9_isSender wsX9_isSender) := goodIn_app (goodIn_of _ (by decide +kernel)) ggX9_says_X9_isSender
set_option maxRecDepth 20000 in
theorem ggX9_says_X9_in : GoodIn wsX9_says wsX9_in := goodIn_r _ [9] (by decide +kernel) (by decide +kernel)
set_option maxRecDepth 20000 in
theorem gX9_says_X9_in : GoodIn wsX9_says (va_wsS RX9 46 yX9_in wsX9_in) := goodIn_app (goodIn_of _ (by decide +kernel)) ggX9_says_X9_in
set_option maxRecDepth 20000 in
theorem ggX9_says_X9_n : GoodIn wsX9_says wsX9_n := goodIn_r _ [12] (by decide +kernel) (by decide +kernel)
set_option maxRecDepth 20000 in
theorem gX9_says_X9_n : GoodIn wsX9_says (va_wsS RX9 50 yX9_n wsX9_n) := goodIn_app (goodIn_of _ (by decide +kernel)) ggX9_says_X9_n
theorem dX9_says_0 : decode cX9_says 0 = .ok (.aload_n 0, 1) := by decide +kernel
theorem dX9_says_1 : decode cX9_says 1 = .ok (.iload_n 1, 1) := by decide +kernel
theorem dX9_says_2 : decode cX9_says 2 = .ok (.invokevirtual 67, 3) := by decide +kernel
theorem dX9_says_5 : decode cX9_says 5 = .ok (.ifCond .ne 5, 3) := by decide +kernel
theorem dX9_says_8 : decode cX9_says 8 = .ok (.iconst (-1), 1) := by decide +kernel
theorem dX9_says_9 : decode cX9_says 9 = .ok (.ireturn, 1) := by decide +kernel
theorem dX9_says_10 : decode cX9_says 10 = .ok (.iload_n 2, 1) := by decide +kernel
theorem dX9_says_11 : decode cX9_says 11 = .ok (.iconst 0, 1) := by decide +kernel
theorem dX9_says_12 : decode cX9_says 12 = .ok (.bipush 31, 2) := by decide +kernel
theorem dX9_says_14 : decode cX9_says 14 = .ok (.invokestatic 46, 3) := by decide +kernel
theorem dX9_says_17 : decode cX9_says 17 = .ok (.ifCond .ne 6, 3) := by decide +kernel
theorem dX9_says_20 : decode cX9_says 20 = .ok (.bipush (-2), 2) := by decide +kernel
theorem dX9_says_22 : decode cX9_says 22 = .ok (.ireturn, 1) := by decide +kernel
theorem dX9_says_23 : decode cX9_says 23 = .ok (.iload_n 1, 1) := by decide +kernel
theorem dX9_says_24 : decode cX9_says 24 = .ok (.invokestatic 50, 3) := by decide +kernel
theorem dX9_says_27 : decode cX9_says 27 = .ok (.istore_n 3, 1) := by decide +kernel
theorem dX9_says_28 : decode cX9_says 28 = .ok (.aload_n 0, 1) := by decide +kernel
theorem dX9_says_29 : decode cX9_says 29 = .ok (.getfield 7, 3) := by decide +kernel
theorem dX9_says_32 : decode cX9_says 32 = .ok (.iload_n 3, 1) := by decide +kernel
theorem dX9_says_33 : decode cX9_says 33 = .ok (.iconst 3, 1) := by decide +kernel
theorem dX9_says_34 : decode cX9_says 34 = .ok (.iadd, 1) := by decide +kernel
theorem dX9_says_35 : decode cX9_says 35 = .ok (.iaload, 1) := by decide +kernel
theorem dX9_says_36 : decode cX9_says 36 = .ok (.bipush 6, 2) := by decide +kernel
theorem dX9_says_38 : decode cX9_says 38 = .ok (.if_icmp .ne 6, 3) := by decide +kernel
theorem dX9_says_41 : decode cX9_says 41 = .ok (.bipush (-3), 2) := by decide +kernel
theorem dX9_says_43 : decode cX9_says 43 = .ok (.ireturn, 1) := by decide +kernel
theorem dX9_says_44 : decode cX9_says 44 = .ok (.aload_n 0, 1) := by decide +kernel
theorem dX9_says_45 : decode cX9_says 45 = .ok (.getfield 7, 3) := by decide +kernel
theorem dX9_says_48 : decode cX9_says 48 = .ok (.iload_n 3, 1) := by decide +kernel
theorem dX9_says_49 : decode cX9_says 49 = .ok (.bipush 8, 2) := by decide +kernel
theorem dX9_says_51 : decode cX9_says 51 = .ok (.iadd, 1) := by decide +kernel
theorem dX9_says_52 : decode cX9_says 52 = .ok (.aload_n 0, 1) := by decide +kernel
theorem dX9_says_53 : decode cX9_says 53 = .ok (.getfield 7, 3) := by decide +kernel
theorem dX9_says_56 : decode cX9_says 56 = .ok (.iload_n 3, 1) := by decide +kernel
theorem dX9_says_57 : decode cX9_says 57 = .ok (.iconst 3, 1) := by decide +kernel
theorem dX9_says_58 : decode cX9_says 58 = .ok (.iadd, 1) := by decide +kernel
theorem dX9_says_59 : decode cX9_says 59 = .ok (.iaload, 1) := by decide +kernel
theorem dX9_says_60 : decode cX9_says 60 = .ok (.iadd, 1) := by decide +kernel
theorem dX9_says_61 : decode cX9_says 61 = .ok (.iload_n 2, 1) := by decide +kernel
theorem dX9_says_62 : decode cX9_says 62 = .ok (.iastore, 1) := by decide +kernel
theorem dX9_says_63 : decode cX9_says 63 = .ok (.aload_n 0, 1) := by decide +kernel
theorem dX9_says_64 : decode cX9_says 64 = .ok (.getfield 7, 3) := by decide +kernel
theorem dX9_says_67 : decode cX9_says 67 = .ok (.iload_n 3, 1) := by decide +kernel
theorem dX9_says_68 : decode cX9_says 68 = .ok (.iconst 3, 1) := by decide +kernel
theorem dX9_says_69 : decode cX9_says 69 = .ok (.iadd, 1) := by decide +kernel
theorem dX9_says_70 : decode cX9_says 70 = .ok (.dup2, 1) := by decide +kernel
theorem dX9_says_71 : decode cX9_says 71 = .ok (.iaload, 1) := by decide +kernel
theorem dX9_says_72 : decode cX9_says 72 = .ok (.iconst 1, 1) := by decide +kernel
theorem dX9_says_73 : decode cX9_says 73 = .ok (.iadd, 1) := by decide +kernel
theorem dX9_says_74 : decode cX9_says 74 = .ok (.iastore, 1) := by decide +kernel
theorem dX9_says_75 : decode cX9_says 75 = .ok (.aload_n 0, 1) := by decide +kernel
theorem dX9_says_76 : decode cX9_says 76 = .ok (.getfield 7, 3) := by decide +kernel
theorem dX9_says_79 : decode cX9_says 79 = .ok (.iload_n 3, 1) := by decide +kernel
theorem dX9_says_80 : decode cX9_says 80 = .ok (.iconst 3, 1) := by decide +kernel
theorem dX9_says_81 : decode cX9_says 81 = .ok (.iadd, 1) := by decide +kernel
theorem dX9_says_82 : decode cX9_says 82 = .ok (.iaload, 1) := by decide +kernel
theorem dX9_says_83 : decode cX9_says 83 = .ok (.ireturn, 1) := by decide +kernel
set_option maxRecDepth 20000 in
theorem ggX9_passes_X9_in : GoodIn wsX9_passes wsX9_in := goodIn_r _ [5] (by decide +kernel) (by decide +kernel)
set_option maxRecDepth 20000 in
theorem gX9_passes_X9_in : GoodIn wsX9_passes (va_wsS RX9 46 yX9_in wsX9_in) := goodIn_app (goodIn_of _ (by decide +kernel)) ggX9_passes_X9_in
set_option maxRecDepth 20000 in
theorem ggX9_passes_X9_beat : GoodIn wsX9_passes wsX9_beat := goodIn_r _ [9, 1, 10, 11, 12, 4, 13, 14, 15, 16, 17, 18, 19, 20, 21, 22, 23, 24, 2, 3, 5, 25, 26, 27, 28, 29, 30, 31, 32, 33, 34, 35, 36, 37, 38, 39, 40, 41, 42, 43, 44, 45, 46, 47, 48, 49, 50, 51, 52, 53, 54, 55, 56, 57, 58, 59, 60, 61, 62, 63, 64, 65, 66, 67, 68, 69, 70, 71, 72, 73, 74, 75, 76, 77, 78, 79, 80, 81, 82, 83, 84, 85, 86, 87, 88, 89, 90, 91, 92, 93, 94, 95, 96, 97, 98, 99, 100, 101, 102] (by decide +kernel) (by decide +kernel)
set_option maxRecDepth 20000 in
theorem gX9_passes_X9_beat : GoodIn wsX9_passes (wsV RX9 115 RX9 yX9_beat wsX9_beat) := goodIn_app (goodIn_of _ (by decide +kernel)) ggX9_passes_X9_beat
theorem dX9_passes_0 : decode cX9_passes 0 = .ok (.iload_n 1, 1) := by decide +kernel
theorem dX9_passes_1 : decode cX9_passes 1 = .ok (.iconst 1, 1) := by decide +kernel
theorem dX9_passes_2 : decode cX9_passes 2 = .ok (.bipush 99, 2) := by decide +kernel
theorem dX9_passes_4 : decode cX9_passes 4 = .ok (.invokestatic 46, 3) := by decide +kernel
theorem dX9_passes_7 : decode cX9_passes 7 = .ok (.ifCond .ne 6, 3) := by decide +kernel
theorem dX9_passes_10 : decode cX9_passes 10 = .ok (.bipush (-2), 2) := by decide +kernel
theorem dX9_passes_12 : decode cX9_passes 12 = .ok (.ireturn, 1) := by decide +kernel
theorem dX9_passes_13 : decode cX9_passes 13 = .ok (.aload_n 0, 1) := by decide +kernel
theorem dX9_passes_14 : decode cX9_passes 14 = .ok (.getfield 7, 3) := by decide +kernel
theorem dX9_passes_17 : decode cX9_passes 17 = .ok (.bipush 7, 2) := by decide +kernel
theorem dX9_passes_19 : decode cX9_passes 19 = .ok (.iaload, 1) := by decide +kernel
theorem dX9_passes_20 : decode cX9_passes 20 = .ok (.istore_n 2, 1) := by decide +kernel
theorem dX9_passes_21 : decode cX9_passes 21 = .ok (.iconst 0, 1) := by decide +kernel
theorem dX9_passes_22 : decode cX9_passes 22 = .ok (.istore_n 3, 1) := by decide +kernel
theorem dX9_passes_23 : decode cX9_passes 23 = .ok (.iload_n 3, 1) := by decide +kernel
theorem dX9_passes_24 : decode cX9_passes 24 = .ok (.iload_n 1, 1) := by decide +kernel
theorem dX9_passes_25 : decode cX9_passes 25 = .ok (.if_icmp .ge 13, 3) := by decide +kernel
theorem dX9_passes_28 : decode cX9_passes 28 = .ok (.aload_n 0, 1) := by decide +kernel
theorem dX9_passes_29 : decode cX9_passes 29 = .ok (.invokevirtual 115, 3) := by decide +kernel
theorem dX9_passes_32 : decode cX9_passes 32 = .ok (.iinc 3 1, 3) := by decide +kernel
theorem dX9_passes_35 : decode cX9_passes 35 = .ok (.goto (-12), 3) := by decide +kernel
theorem dX9_passes_38 : decode cX9_passes 38 = .ok (.aload_n 0, 1) := by decide +kernel
theorem dX9_passes_39 : decode cX9_passes 39 = .ok (.getfield 7, 3) := by decide +kernel
theorem dX9_passes_42 : decode cX9_passes 42 = .ok (.bipush 7, 2) := by decide +kernel
theorem dX9_passes_44 : decode cX9_passes 44 = .ok (.iaload, 1) := by decide +kernel
theorem dX9_passes_45 : decode cX9_passes 45 = .ok (.iload_n 2, 1) := by decide +kernel
theorem dX9_passes_46 : decode cX9_passes 46 = .ok (.isub, 1) := by decide +kernel
theorem dX9_passes_47 : decode cX9_passes 47 = .ok (.ireturn, 1) := by decide +kernel
theorem dX9_free_0 : decode cX9_free 0 = .ok (.iconst 0, 1) := by decide +kernel
theorem dX9_free_1 : decode cX9_free 1 = .ok (.istore 4, 2) := by decide +kernel
theorem dX9_free_3 : decode cX9_free 3 = .ok (.iload 4, 2) := by decide +kernel
theorem dX9_free_5 : decode cX9_free 5 = .ok (.iload_n 3, 1) := by decide +kernel
theorem dX9_free_6 : decode cX9_free 6 = .ok (.if_icmp .ge 24, 3) := by decide +kernel
theorem dX9_free_9 : decode cX9_free 9 = .ok (.aload_n 0, 1) := by decide +kernel
theorem dX9_free_10 : decode cX9_free 10 = .ok (.getfield 7, 3) := by decide +kernel
theorem dX9_free_13 : decode cX9_free 13 = .ok (.iload_n 1, 1) := by decide +kernel
theorem dX9_free_14 : decode cX9_free 14 = .ok (.iload_n 2, 1) := by decide +kernel
theorem dX9_free_15 : decode cX9_free 15 = .ok (.iload 4, 2) := by decide +kernel
theorem dX9_free_17 : decode cX9_free 17 = .ok (.imul, 1) := by decide +kernel
theorem dX9_free_18 : decode cX9_free 18 = .ok (.iadd, 1) := by decide +kernel
theorem dX9_free_19 : decode cX9_free 19 = .ok (.iaload, 1) := by decide +kernel
theorem dX9_free_20 : decode cX9_free 20 = .ok (.iconst 1, 1) := by decide +kernel
theorem dX9_free_21 : decode cX9_free 21 = .ok (.if_icmp .ne 9, 3) := by decide +kernel
theorem dX9_free_24 : decode cX9_free 24 = .ok (.iinc 4 1, 3) := by decide +kernel
theorem dX9_free_27 : decode cX9_free 27 = .ok (.goto (-24), 3) := by decide +kernel
theorem dX9_free_30 : decode cX9_free 30 = .ok (.iload 4, 2) := by decide +kernel
theorem dX9_free_32 : decode cX9_free 32 = .ok (.ireturn, 1) := by decide +kernel
theorem dX9_put_0 : decode cX9_put 0 = .ok (.iconst 0, 1) := by decide +kernel
theorem dX9_put_1 : decode cX9_put 1 = .ok (.istore 6, 2) := by decide +kernel
theorem dX9_put_3 : decode cX9_put 3 = .ok (.iload 6, 2) := by decide +kernel
theorem dX9_put_5 : decode cX9_put 5 = .ok (.iload_n 2, 1) := by decide +kernel
theorem dX9_put_6 : decode cX9_put 6 = .ok (.if_icmp .ge 19, 3) := by decide +kernel
theorem dX9_put_9 : decode cX9_put 9 = .ok (.aload_n 0, 1) := by decide +kernel
theorem dX9_put_10 : decode cX9_put 10 = .ok (.getfield 7, 3) := by decide +kernel
theorem dX9_put_13 : decode cX9_put 13 = .ok (.iload_n 1, 1) := by decide +kernel
theorem dX9_put_14 : decode cX9_put 14 = .ok (.iload 6, 2) := by decide +kernel
theorem dX9_put_16 : decode cX9_put 16 = .ok (.iadd, 1) := by decide +kernel
theorem dX9_put_17 : decode cX9_put 17 = .ok (.iconst 0, 1) := by decide +kernel
theorem dX9_put_18 : decode cX9_put 18 = .ok (.iastore, 1) := by decide +kernel
theorem dX9_put_19 : decode cX9_put 19 = .ok (.iinc 6 1, 3) := by decide +kernel
theorem dX9_put_22 : decode cX9_put 22 = .ok (.goto (-19), 3) := by decide +kernel
theorem dX9_put_25 : decode cX9_put 25 = .ok (.aload_n 0, 1) := by decide +kernel
theorem dX9_put_26 : decode cX9_put 26 = .ok (.getfield 7, 3) := by decide +kernel
theorem dX9_put_29 : decode cX9_put 29 = .ok (.iload_n 1, 1) := by decide +kernel
theorem dX9_put_30 : decode cX9_put 30 = .ok (.iconst 1, 1) := by decide +kernel
theorem dX9_put_31 : decode cX9_put 31 = .ok (.iastore, 1) := by decide +kernel
theorem dX9_put_32 : decode cX9_put 32 = .ok (.aload_n 0, 1) := by decide +kernel
theorem dX9_put_33 : decode cX9_put 33 = .ok (.getfield 7, 3) := by decide +kernel
theorem dX9_put_36 : decode cX9_put 36 = .ok (.iload_n 1, 1) := by decide +kernel
theorem dX9_put_37 : decode cX9_put 37 = .ok (.iconst 1, 1) := by decide +kernel
theorem dX9_put_38 : decode cX9_put 38 = .ok (.iadd, 1) := by decide +kernel
theorem dX9_put_39 : decode cX9_put 39 = .ok (.iload_n 3, 1) := by decide +kernel
theorem dX9_put_40 : decode cX9_put 40 = .ok (.iastore, 1) := by decide +kernel
theorem dX9_put_41 : decode cX9_put 41 = .ok (.aload_n 0, 1) := by decide +kernel
theorem dX9_put_42 : decode cX9_put 42 = .ok (.getfield 7, 3) := by decide +kernel
theorem dX9_put_45 : decode cX9_put 45 = .ok (.iload_n 1, 1) := by decide +kernel
theorem dX9_put_46 : decode cX9_put 46 = .ok (.iconst 2, 1) := by decide +kernel
theorem dX9_put_47 : decode cX9_put 47 = .ok (.iadd, 1) := by decide +kernel
theorem dX9_put_48 : decode cX9_put 48 = .ok (.iload 4, 2) := by decide +kernel
theorem dX9_put_50 : decode cX9_put 50 = .ok (.iastore, 1) := by decide +kernel
theorem dX9_put_51 : decode cX9_put 51 = .ok (.aload_n 0, 1) := by decide +kernel
theorem dX9_put_52 : decode cX9_put 52 = .ok (.getfield 7, 3) := by decide +kernel
theorem dX9_put_55 : decode cX9_put 55 = .ok (.iload_n 1, 1) := by decide +kernel
theorem dX9_put_56 : decode cX9_put 56 = .ok (.iconst 3, 1) := by decide +kernel
theorem dX9_put_57 : decode cX9_put 57 = .ok (.iadd, 1) := by decide +kernel
theorem dX9_put_58 : decode cX9_put 58 = .ok (.iload 5, 2) := by decide +kernel
theorem dX9_put_60 : decode cX9_put 60 = .ok (.iastore, 1) := by decide +kernel
theorem dX9_put_61 : decode cX9_put 61 = .ok (.return_, 1) := by decide +kernel
set_option maxRecDepth 20000 in
theorem ggX9_sender_X9_isWire : GoodIn wsX9_sender wsX9_isWire := goodIn_r _ [4, 5, 6, 3, 7] (by decide +kernel) (by decide +kernel)
set_option maxRecDepth 20000 in
theorem gX9_sender_X9_isWire : GoodIn wsX9_sender (va_wsS RX9 118 yX9_isWire wsX9_isWire) := goodIn_app (goodIn_of _ (by decide +kernel)) ggX9_sender_X9_isWire
set_option maxRecDepth 20000 in
theorem ggX9_sender_X9_in : GoodIn wsX9_sender wsX9_in := goodIn_r _ [7] (by decide +kernel) (by decide +kernel)
set_option maxRecDepth 20000 in
theorem gX9_sender_X9_in : GoodIn wsX9_sender (va_wsS RX9 46 yX9_in wsX9_in) := goodIn_app (goodIn_of _ (by decide +kernel)) ggX9_sender_X9_in
set_option maxRecDepth 20000 in
theorem ggX9_sender_X9_free : GoodIn wsX9_sender wsX9_free := goodIn_r _ [11, 12, 31, 32, 33, 34, 35, 36, 37, 38, 39, 40, 41, 42, 43, 44, 45] (by decide +kernel) (by decide +kernel)
set_option maxRecDepth 20000 in
theorem gX9_sender_X9_free : GoodIn wsX9_sender (wsV RX9 121 RX9 yX9_free wsX9_free) := goodIn_app (goodIn_of _ (by decide +kernel)) ggX9_sender_X9_free
set_option maxRecDepth 20000 in
theorem ggX9_sender_X9_hold : GoodIn wsX9_sender wsX9_hold := goodIn_r _ [16, 17, 12, 31, 32, 33, 34, 35, 36, 37, 38, 39, 40, 41, 42, 43, 44, 45] (by decide +kernel) (by decide +kernel)
set_option maxRecDepth 20000 in
theorem gX9_sender_X9_hold : GoodIn wsX9_sender (wsV RX9 125 RX9 yX9_hold wsX9_hold) := goodIn_app (goodIn_of _ (by decide +kernel)) ggX9_sender_X9_hold
set_option maxRecDepth 20000 in
theorem ggX9_sender_X9_n : GoodIn wsX9_sender wsX9_n := goodIn_r _ [20] (by decide +kernel) (by decide +kernel)
set_option maxRecDepth 20000 in
theorem gX9_sender_X9_n : GoodIn wsX9_sender (va_wsS RX9 50 yX9_n wsX9_n) := goodIn_app (goodIn_of _ (by decide +kernel)) ggX9_sender_X9_n
set_option maxRecDepth 20000 in
theorem ggX9_sender_X9_put : GoodIn wsX9_sender wsX9_put := goodIn_r _ [24, 12, 31, 32, 33, 34, 35, 36, 37, 38, 39, 40, 41, 42, 43, 44, 45] (by decide +kernel) (by decide +kernel)
set_option maxRecDepth 20000 in
theorem gX9_sender_X9_put : GoodIn wsX9_sender (wsV RX9 128 RX9 yX9_put wsX9_put) := goodIn_app (goodIn_of _ (by decide +kernel)) ggX9_sender_X9_put
set_option maxRecDepth 20000 in
theorem ggX9_sender_X9_recorded : GoodIn wsX9_sender wsX9_recorded := goodIn_r _ [28, 29, 30, 17, 31, 32, 33, 34, 35, 36, 37, 38, 39, 40, 41, 42, 43, 44, 45] (by decide +kernel) (by decide +kernel)
set_option maxRecDepth 20000 in
theorem gX9_sender_X9_recorded : GoodIn wsX9_sender (wsV RX9 132 RX9 yX9_recorded wsX9_recorded) := goodIn_app (goodIn_of _ (by decide +kernel)) ggX9_sender_X9_recorded
theorem dX9_sender_0 : decode cX9_sender 0 = .ok (.iload_n 1, 1) := by decide +kernel
theorem dX9_sender_1 : decode cX9_sender 1 = .ok (.invokestatic 118, 3) := by decide +kernel
theorem dX9_sender_4 : decode cX9_sender 4 = .ok (.ifCond .ne 5, 3) := by decide +kernel
theorem dX9_sender_7 : decode cX9_sender 7 = .ok (.iconst (-1), 1) := by decide +kernel
theorem dX9_sender_8 : decode cX9_sender 8 = .ok (.ireturn, 1) := by decide +kernel
theorem dX9_sender_9 : decode cX9_sender 9 = .ok (.iload_n 2, 1) := by decide +kernel
theorem dX9_sender_10 : decode cX9_sender 10 = .ok (.iconst 1, 1) := by decide +kernel
theorem dX9_sender_11 : decode cX9_sender 11 = .ok (.bipush 9, 2) := by decide +kernel
theorem dX9_sender_13 : decode cX9_sender 13 = .ok (.invokestatic 46, 3) := by decide +kernel
theorem dX9_sender_16 : decode cX9_sender 16 = .ok (.ifCond .ne 6, 3) := by decide +kernel
theorem dX9_sender_19 : decode cX9_sender 19 = .ok (.bipush (-2), 2) := by decide +kernel
theorem dX9_sender_21 : decode cX9_sender 21 = .ok (.ireturn, 1) := by decide +kernel
theorem dX9_sender_22 : decode cX9_sender 22 = .ok (.aload_n 0, 1) := by decide +kernel
theorem dX9_sender_23 : decode cX9_sender 23 = .ok (.bipush 10, 2) := by decide +kernel
theorem dX9_sender_25 : decode cX9_sender 25 = .ok (.bipush 14, 2) := by decide +kernel
theorem dX9_sender_27 : decode cX9_sender 27 = .ok (.iconst 5, 1) := by decide +kernel
theorem dX9_sender_28 : decode cX9_sender 28 = .ok (.invokevirtual 121, 3) := by decide +kernel
theorem dX9_sender_31 : decode cX9_sender 31 = .ok (.istore_n 3, 1) := by decide +kernel
theorem dX9_sender_32 : decode cX9_sender 32 = .ok (.iload_n 3, 1) := by decide +kernel
theorem dX9_sender_33 : decode cX9_sender 33 = .ok (.iconst 5, 1) := by decide +kernel
theorem dX9_sender_34 : decode cX9_sender 34 = .ok (.if_icmp .ne 6, 3) := by decide +kernel
theorem dX9_sender_37 : decode cX9_sender 37 = .ok (.bipush (-3), 2) := by decide +kernel
theorem dX9_sender_39 : decode cX9_sender 39 = .ok (.ireturn, 1) := by decide +kernel
theorem dX9_sender_40 : decode cX9_sender 40 = .ok (.aload_n 0, 1) := by decide +kernel
theorem dX9_sender_41 : decode cX9_sender 41 = .ok (.invokevirtual 125, 3) := by decide +kernel
theorem dX9_sender_44 : decode cX9_sender 44 = .ok (.aload_n 0, 1) := by decide +kernel
theorem dX9_sender_45 : decode cX9_sender 45 = .ok (.iload_n 3, 1) := by decide +kernel
theorem dX9_sender_46 : decode cX9_sender 46 = .ok (.invokestatic 50, 3) := by decide +kernel
theorem dX9_sender_49 : decode cX9_sender 49 = .ok (.bipush 14, 2) := by decide +kernel
theorem dX9_sender_51 : decode cX9_sender 51 = .ok (.iload_n 1, 1) := by decide +kernel
theorem dX9_sender_52 : decode cX9_sender 52 = .ok (.iload_n 2, 1) := by decide +kernel
theorem dX9_sender_53 : decode cX9_sender 53 = .ok (.iconst 0, 1) := by decide +kernel
theorem dX9_sender_54 : decode cX9_sender 54 = .ok (.invokevirtual 128, 3) := by decide +kernel
theorem dX9_sender_57 : decode cX9_sender 57 = .ok (.aload_n 0, 1) := by decide +kernel
theorem dX9_sender_58 : decode cX9_sender 58 = .ok (.iload_n 3, 1) := by decide +kernel
theorem dX9_sender_59 : decode cX9_sender 59 = .ok (.invokevirtual 132, 3) := by decide +kernel
theorem dX9_sender_62 : decode cX9_sender 62 = .ok (.ireturn, 1) := by decide +kernel
set_option maxRecDepth 20000 in
theorem ggX9_machine_X9_isWire : GoodIn wsX9_machine wsX9_isWire := goodIn_r _ [5, 6, 7, 4, 8] (by decide +kernel) (by decide +kernel)
set_option maxRecDepth 20000 in
theorem gX9_machine_X9_isWire : GoodIn wsX9_machine (va_wsS RX9 118 yX9_isWire wsX9_isWire) := goodIn_app (goodIn_of _ (by decide +kernel)) ggX9_machine_X9_isWire
set_option maxRecDepth 20000 in
theorem ggX9_machine_X9_in : GoodIn wsX9_machine wsX9_in := goodIn_r _ [8] (by decide +kernel) (by decide +kernel)
set_option maxRecDepth 20000 in
theorem gX9_machine_X9_in : GoodIn wsX9_machine (va_wsS RX9 46 yX9_in wsX9_in) := goodIn_app (goodIn_of _ (by decide +kernel)) ggX9_machine_X9_in
set_option maxRecDepth 20000 in
theorem ggX9_machine_X9_free : GoodIn wsX9_machine wsX9_free := goodIn_r _ [12, 1, 31, 32, 33, 34, 35, 36, 37, 38, 39, 40, 41, 42, 43, 44, 45] (by decide +kernel) (by decide +kernel)
set_option maxRecDepth 20000 in
theorem gX9_machine_X9_free : GoodIn wsX9_machine (wsV RX9 121 RX9 yX9_free wsX9_free) := goodIn_app (goodIn_of _ (by decide +kernel)) ggX9_machine_X9_free
set_option maxRecDepth 20000 in
theorem ggX9_machine_X9_hold : GoodIn wsX9_machine wsX9_hold := goodIn_r _ [16, 17, 1, 31, 32, 33, 34, 35, 36, 37, 38, 39, 40, 41, 42, 43, 44, 45] (by decide +kernel) (by decide +kernel)
set_option maxRecDepth 20000 in
theorem gX9_machine_X9_hold : GoodIn wsX9_machine (wsV RX9 125 RX9 yX9_hold wsX9_hold) := goodIn_app (goodIn_of _ (by decide +kernel)) ggX9_machine_X9_hold
set_option maxRecDepth 20000 in
theorem ggX9_machine_X9_m : GoodIn wsX9_machine wsX9_m := goodIn_r _ [20] (by decide +kernel) (by decide +kernel)
set_option maxRecDepth 20000 in
theorem gX9_machine_X9_m : GoodIn wsX9_machine (va_wsS RX9 53 yX9_m wsX9_m) := goodIn_app (goodIn_of _ (by decide +kernel)) ggX9_machine_X9_m
set_option maxRecDepth 20000 in
theorem ggX9_machine_X9_put : GoodIn wsX9_machine wsX9_put := goodIn_r _ [24, 1, 31, 32, 33, 34, 35, 36, 37, 38, 39, 40, 41, 42, 43, 44, 45] (by decide +kernel) (by decide +kernel)
set_option maxRecDepth 20000 in
theorem gX9_machine_X9_put : GoodIn wsX9_machine (wsV RX9 128 RX9 yX9_put wsX9_put) := goodIn_app (goodIn_of _ (by decide +kernel)) ggX9_machine_X9_put
set_option maxRecDepth 20000 in
theorem ggX9_machine_X9_recorded : GoodIn wsX9_machine wsX9_recorded := goodIn_r _ [28, 29, 30, 17, 31, 32, 33, 34, 35, 36, 37, 38, 39, 40, 41, 42, 43, 44, 45] (by decide +kernel) (by decide +kernel)
set_option maxRecDepth 20000 in
theorem gX9_machine_X9_recorded : GoodIn wsX9_machine (wsV RX9 132 RX9 yX9_recorded wsX9_recorded) := goodIn_app (goodIn_of _ (by decide +kernel)) ggX9_machine_X9_recorded
theorem dX9_machine_0 : decode cX9_machine 0 = .ok (.iload_n 1, 1) := by decide +kernel
theorem dX9_machine_1 : decode cX9_machine 1 = .ok (.invokestatic 118, 3) := by decide +kernel
theorem dX9_machine_4 : decode cX9_machine 4 = .ok (.ifCond .ne 5, 3) := by decide +kernel
theorem dX9_machine_7 : decode cX9_machine 7 = .ok (.iconst (-1), 1) := by decide +kernel
theorem dX9_machine_8 : decode cX9_machine 8 = .ok (.ireturn, 1) := by decide +kernel
theorem dX9_machine_9 : decode cX9_machine 9 = .ok (.iload_n 2, 1) := by decide +kernel
theorem dX9_machine_10 : decode cX9_machine 10 = .ok (.iconst 1, 1) := by decide +kernel
theorem dX9_machine_11 : decode cX9_machine 11 = .ok (.bipush 9, 2) := by decide +kernel
theorem dX9_machine_13 : decode cX9_machine 13 = .ok (.invokestatic 46, 3) := by decide +kernel
theorem dX9_machine_16 : decode cX9_machine 16 = .ok (.ifCond .eq 13, 3) := by decide +kernel
theorem dX9_machine_19 : decode cX9_machine 19 = .ok (.iload_n 3, 1) := by decide +kernel
theorem dX9_machine_20 : decode cX9_machine 20 = .ok (.iconst 2, 1) := by decide +kernel
theorem dX9_machine_21 : decode cX9_machine 21 = .ok (.bipush 20, 2) := by decide +kernel
theorem dX9_machine_23 : decode cX9_machine 23 = .ok (.invokestatic 46, 3) := by decide +kernel
theorem dX9_machine_26 : decode cX9_machine 26 = .ok (.ifCond .ne 6, 3) := by decide +kernel
theorem dX9_machine_29 : decode cX9_machine 29 = .ok (.bipush (-2), 2) := by decide +kernel
theorem dX9_machine_31 : decode cX9_machine 31 = .ok (.ireturn, 1) := by decide +kernel
theorem dX9_machine_32 : decode cX9_machine 32 = .ok (.aload_n 0, 1) := by decide +kernel
theorem dX9_machine_33 : decode cX9_machine 33 = .ok (.bipush 80, 2) := by decide +kernel
theorem dX9_machine_35 : decode cX9_machine 35 = .ok (.iconst 5, 1) := by decide +kernel
theorem dX9_machine_36 : decode cX9_machine 36 = .ok (.iconst 4, 1) := by decide +kernel
theorem dX9_machine_37 : decode cX9_machine 37 = .ok (.invokevirtual 121, 3) := by decide +kernel
theorem dX9_machine_40 : decode cX9_machine 40 = .ok (.istore 4, 2) := by decide +kernel
theorem dX9_machine_42 : decode cX9_machine 42 = .ok (.iload 4, 2) := by decide +kernel
theorem dX9_machine_44 : decode cX9_machine 44 = .ok (.iconst 4, 1) := by decide +kernel
theorem dX9_machine_45 : decode cX9_machine 45 = .ok (.if_icmp .ne 6, 3) := by decide +kernel
theorem dX9_machine_48 : decode cX9_machine 48 = .ok (.bipush (-3), 2) := by decide +kernel
theorem dX9_machine_50 : decode cX9_machine 50 = .ok (.ireturn, 1) := by decide +kernel
theorem dX9_machine_51 : decode cX9_machine 51 = .ok (.aload_n 0, 1) := by decide +kernel
theorem dX9_machine_52 : decode cX9_machine 52 = .ok (.invokevirtual 125, 3) := by decide +kernel
theorem dX9_machine_55 : decode cX9_machine 55 = .ok (.aload_n 0, 1) := by decide +kernel
theorem dX9_machine_56 : decode cX9_machine 56 = .ok (.iload 4, 2) := by decide +kernel
theorem dX9_machine_58 : decode cX9_machine 58 = .ok (.invokestatic 53, 3) := by decide +kernel
theorem dX9_machine_61 : decode cX9_machine 61 = .ok (.iconst 5, 1) := by decide +kernel
theorem dX9_machine_62 : decode cX9_machine 62 = .ok (.iload_n 1, 1) := by decide +kernel
theorem dX9_machine_63 : decode cX9_machine 63 = .ok (.iload_n 2, 1) := by decide +kernel
theorem dX9_machine_64 : decode cX9_machine 64 = .ok (.iload_n 3, 1) := by decide +kernel
theorem dX9_machine_65 : decode cX9_machine 65 = .ok (.invokevirtual 128, 3) := by decide +kernel
theorem dX9_machine_68 : decode cX9_machine 68 = .ok (.aload_n 0, 1) := by decide +kernel
theorem dX9_machine_69 : decode cX9_machine 69 = .ok (.getfield 7, 3) := by decide +kernel
theorem dX9_machine_72 : decode cX9_machine 72 = .ok (.iload 4, 2) := by decide +kernel
theorem dX9_machine_74 : decode cX9_machine 74 = .ok (.invokestatic 53, 3) := by decide +kernel
theorem dX9_machine_77 : decode cX9_machine 77 = .ok (.iconst 4, 1) := by decide +kernel
theorem dX9_machine_78 : decode cX9_machine 78 = .ok (.iadd, 1) := by decide +kernel
theorem dX9_machine_79 : decode cX9_machine 79 = .ok (.iconst 1, 1) := by decide +kernel
theorem dX9_machine_80 : decode cX9_machine 80 = .ok (.iastore, 1) := by decide +kernel
theorem dX9_machine_81 : decode cX9_machine 81 = .ok (.aload_n 0, 1) := by decide +kernel
theorem dX9_machine_82 : decode cX9_machine 82 = .ok (.iload 4, 2) := by decide +kernel
theorem dX9_machine_84 : decode cX9_machine 84 = .ok (.invokevirtual 132, 3) := by decide +kernel
theorem dX9_machine_87 : decode cX9_machine 87 = .ok (.ireturn, 1) := by decide +kernel
set_option maxRecDepth 20000 in
theorem ggX9_lamp_X9_isWire : GoodIn wsX9_lamp wsX9_isWire := goodIn_r _ [4, 5, 6, 3, 7] (by decide +kernel) (by decide +kernel)
set_option maxRecDepth 20000 in
theorem gX9_lamp_X9_isWire : GoodIn wsX9_lamp (va_wsS RX9 118 yX9_isWire wsX9_isWire) := goodIn_app (goodIn_of _ (by decide +kernel)) ggX9_lamp_X9_isWire
set_option maxRecDepth 20000 in
theorem ggX9_lamp_X9_in : GoodIn wsX9_lamp wsX9_in := goodIn_r _ [7] (by decide +kernel) (by decide +kernel)
set_option maxRecDepth 20000 in
theorem gX9_lamp_X9_in : GoodIn wsX9_lamp (va_wsS RX9 46 yX9_in wsX9_in) := goodIn_app (goodIn_of _ (by decide +kernel)) ggX9_lamp_X9_in
set_option maxRecDepth 20000 in
theorem ggX9_lamp_X9_free : GoodIn wsX9_lamp wsX9_free := goodIn_r _ [11, 12, 31, 32, 33, 34, 35, 36, 37, 38, 39, 40, 41, 42, 43, 44, 45] (by decide +kernel) (by decide +kernel)
set_option maxRecDepth 20000 in
theorem gX9_lamp_X9_free : GoodIn wsX9_lamp (wsV RX9 121 RX9 yX9_free wsX9_free) := goodIn_app (goodIn_of _ (by decide +kernel)) ggX9_lamp_X9_free
set_option maxRecDepth 20000 in
theorem ggX9_lamp_X9_hold : GoodIn wsX9_lamp wsX9_hold := goodIn_r _ [16, 17, 12, 31, 32, 33, 34, 35, 36, 37, 38, 39, 40, 41, 42, 43, 44, 45] (by decide +kernel) (by decide +kernel)
set_option maxRecDepth 20000 in
theorem gX9_lamp_X9_hold : GoodIn wsX9_lamp (wsV RX9 125 RX9 yX9_hold wsX9_hold) := goodIn_app (goodIn_of _ (by decide +kernel)) ggX9_lamp_X9_hold
set_option maxRecDepth 20000 in
theorem ggX9_lamp_X9_l : GoodIn wsX9_lamp wsX9_l := goodIn_r _ [20] (by decide +kernel) (by decide +kernel)
set_option maxRecDepth 20000 in
theorem gX9_lamp_X9_l : GoodIn wsX9_lamp (va_wsS RX9 56 yX9_l wsX9_l) := goodIn_app (goodIn_of _ (by decide +kernel)) ggX9_lamp_X9_l
set_option maxRecDepth 20000 in
theorem ggX9_lamp_X9_put : GoodIn wsX9_lamp wsX9_put := goodIn_r _ [24, 12, 31, 32, 33, 34, 35, 36, 37, 38, 39, 40, 41, 42, 43, 44, 45] (by decide +kernel) (by decide +kernel)
set_option maxRecDepth 20000 in
theorem gX9_lamp_X9_put : GoodIn wsX9_lamp (wsV RX9 128 RX9 yX9_put wsX9_put) := goodIn_app (goodIn_of _ (by decide +kernel)) ggX9_lamp_X9_put
set_option maxRecDepth 20000 in
theorem ggX9_lamp_X9_recorded : GoodIn wsX9_lamp wsX9_recorded := goodIn_r _ [28, 29, 30, 17, 31, 32, 33, 34, 35, 36, 37, 38, 39, 40, 41, 42, 43, 44, 45] (by decide +kernel) (by decide +kernel)
set_option maxRecDepth 20000 in
theorem gX9_lamp_X9_recorded : GoodIn wsX9_lamp (wsV RX9 132 RX9 yX9_recorded wsX9_recorded) := goodIn_app (goodIn_of _ (by decide +kernel)) ggX9_lamp_X9_recorded
theorem dX9_lamp_0 : decode cX9_lamp 0 = .ok (.iload_n 1, 1) := by decide +kernel
theorem dX9_lamp_1 : decode cX9_lamp 1 = .ok (.invokestatic 118, 3) := by decide +kernel
theorem dX9_lamp_4 : decode cX9_lamp 4 = .ok (.ifCond .ne 5, 3) := by decide +kernel
theorem dX9_lamp_7 : decode cX9_lamp 7 = .ok (.iconst (-1), 1) := by decide +kernel
theorem dX9_lamp_8 : decode cX9_lamp 8 = .ok (.ireturn, 1) := by decide +kernel
theorem dX9_lamp_9 : decode cX9_lamp 9 = .ok (.iload_n 2, 1) := by decide +kernel
theorem dX9_lamp_10 : decode cX9_lamp 10 = .ok (.iconst 0, 1) := by decide +kernel
theorem dX9_lamp_11 : decode cX9_lamp 11 = .ok (.iconst 3, 1) := by decide +kernel
theorem dX9_lamp_12 : decode cX9_lamp 12 = .ok (.invokestatic 46, 3) := by decide +kernel
theorem dX9_lamp_15 : decode cX9_lamp 15 = .ok (.ifCond .eq 12, 3) := by decide +kernel
theorem dX9_lamp_18 : decode cX9_lamp 18 = .ok (.iload_n 3, 1) := by decide +kernel
theorem dX9_lamp_19 : decode cX9_lamp 19 = .ok (.iconst 0, 1) := by decide +kernel
theorem dX9_lamp_20 : decode cX9_lamp 20 = .ok (.iconst 3, 1) := by decide +kernel
theorem dX9_lamp_21 : decode cX9_lamp 21 = .ok (.invokestatic 46, 3) := by decide +kernel
theorem dX9_lamp_24 : decode cX9_lamp 24 = .ok (.ifCond .ne 6, 3) := by decide +kernel
theorem dX9_lamp_27 : decode cX9_lamp 27 = .ok (.bipush (-2), 2) := by decide +kernel
theorem dX9_lamp_29 : decode cX9_lamp 29 = .ok (.ireturn, 1) := by decide +kernel
theorem dX9_lamp_30 : decode cX9_lamp 30 = .ok (.aload_n 0, 1) := by decide +kernel
theorem dX9_lamp_31 : decode cX9_lamp 31 = .ok (.bipush 100, 2) := by decide +kernel
theorem dX9_lamp_33 : decode cX9_lamp 33 = .ok (.bipush 6, 2) := by decide +kernel
theorem dX9_lamp_35 : decode cX9_lamp 35 = .ok (.bipush 8, 2) := by decide +kernel
theorem dX9_lamp_37 : decode cX9_lamp 37 = .ok (.invokevirtual 121, 3) := by decide +kernel
theorem dX9_lamp_40 : decode cX9_lamp 40 = .ok (.istore 4, 2) := by decide +kernel
theorem dX9_lamp_42 : decode cX9_lamp 42 = .ok (.iload 4, 2) := by decide +kernel
theorem dX9_lamp_44 : decode cX9_lamp 44 = .ok (.bipush 8, 2) := by decide +kernel
theorem dX9_lamp_46 : decode cX9_lamp 46 = .ok (.if_icmp .ne 6, 3) := by decide +kernel
theorem dX9_lamp_49 : decode cX9_lamp 49 = .ok (.bipush (-3), 2) := by decide +kernel
theorem dX9_lamp_51 : decode cX9_lamp 51 = .ok (.ireturn, 1) := by decide +kernel
theorem dX9_lamp_52 : decode cX9_lamp 52 = .ok (.aload_n 0, 1) := by decide +kernel
theorem dX9_lamp_53 : decode cX9_lamp 53 = .ok (.invokevirtual 125, 3) := by decide +kernel
theorem dX9_lamp_56 : decode cX9_lamp 56 = .ok (.aload_n 0, 1) := by decide +kernel
theorem dX9_lamp_57 : decode cX9_lamp 57 = .ok (.iload 4, 2) := by decide +kernel
theorem dX9_lamp_59 : decode cX9_lamp 59 = .ok (.invokestatic 56, 3) := by decide +kernel
theorem dX9_lamp_62 : decode cX9_lamp 62 = .ok (.bipush 6, 2) := by decide +kernel
theorem dX9_lamp_64 : decode cX9_lamp 64 = .ok (.iload_n 1, 1) := by decide +kernel
theorem dX9_lamp_65 : decode cX9_lamp 65 = .ok (.iload_n 2, 1) := by decide +kernel
theorem dX9_lamp_66 : decode cX9_lamp 66 = .ok (.iload_n 3, 1) := by decide +kernel
theorem dX9_lamp_67 : decode cX9_lamp 67 = .ok (.invokevirtual 128, 3) := by decide +kernel
theorem dX9_lamp_70 : decode cX9_lamp 70 = .ok (.aload_n 0, 1) := by decide +kernel
theorem dX9_lamp_71 : decode cX9_lamp 71 = .ok (.iload 4, 2) := by decide +kernel
theorem dX9_lamp_73 : decode cX9_lamp 73 = .ok (.invokevirtual 132, 3) := by decide +kernel
theorem dX9_lamp_76 : decode cX9_lamp 76 = .ok (.ireturn, 1) := by decide +kernel
set_option maxRecDepth 20000 in
theorem ggX9_remove_X9_in : GoodIn wsX9_remove wsX9_in := goodIn_r _ [5] (by decide +kernel) (by decide +kernel)
set_option maxRecDepth 20000 in
theorem gX9_remove_X9_in : GoodIn wsX9_remove (va_wsS RX9 46 yX9_in wsX9_in) := goodIn_app (goodIn_of _ (by decide +kernel)) ggX9_remove_X9_in
set_option maxRecDepth 20000 in
theorem ggX9_remove_X9_isSender : GoodIn wsX9_remove wsX9_isSender := goodIn_r _ [9, 1, 2, 3, 4, 5, 10, 11, 12, 38, 39, 40, 41, 42, 43, 44, 45, 46, 47, 48, 49, 50, 51, 52] (by decide +kernel) (by decide +kernel)
set_option maxRecDepth 20000 in
theorem gX9_remove_X9_isSender : GoodIn wsX9_remove (wsV RX9 67 RX9 yX9_isSender wsX9_isSender) := goodIn_app (goodIn_of _ (by decide +kernel)) ggX9_remove_X9_isSender
set_option maxRecDepth 20000 in
theorem ggX9_remove_X9_isMachine : GoodIn wsX9_remove wsX9_isMachine := goodIn_r _ [16, 1, 2, 3, 4, 5, 17, 18, 19, 38, 39, 40, 41, 42, 43, 44, 45, 46, 47, 48, 49, 50, 51, 52] (by decide +kernel) (by decide +kernel)
set_option maxRecDepth 20000 in
theorem gX9_remove_X9_isMachine : GoodIn wsX9_remove (wsV RX9 81 RX9 yX9_isMachine wsX9_isMachine) := goodIn_app (goodIn_of _ (by decide +kernel)) ggX9_remove_X9_isMachine
set_option maxRecDepth 20000 in
theorem ggX9_remove_X9_isLamp : GoodIn wsX9_remove wsX9_isLamp := goodIn_r _ [23, 1, 2, 3, 4, 5, 24, 25, 26, 38, 39, 40, 41, 42, 43, 44, 45, 46, 47, 48, 49, 50, 51, 52] (by decide +kernel) (by decide +kernel)
set_option maxRecDepth 20000 in
theorem gX9_remove_X9_isLamp : GoodIn wsX9_remove (wsV RX9 88 RX9 yX9_isLamp wsX9_isLamp) := goodIn_app (goodIn_of _ (by decide +kernel)) ggX9_remove_X9_isLamp
set_option maxRecDepth 20000 in
theorem ggX9_remove_X9_hold : GoodIn wsX9_remove wsX9_hold := goodIn_r _ [30, 31, 1, 38, 39, 40, 41, 42, 43, 44, 45, 46, 47, 48, 49, 50, 51, 52] (by decide +kernel) (by decide +kernel)
set_option maxRecDepth 20000 in
theorem gX9_remove_X9_hold : GoodIn wsX9_remove (wsV RX9 125 RX9 yX9_hold wsX9_hold) := goodIn_app (goodIn_of _ (by decide +kernel)) ggX9_remove_X9_hold
set_option maxRecDepth 20000 in
theorem ggX9_remove_X9_n : GoodIn wsX9_remove wsX9_n := goodIn_r _ [12] (by decide +kernel) (by decide +kernel)
set_option maxRecDepth 20000 in
theorem gX9_remove_X9_n : GoodIn wsX9_remove (va_wsS RX9 50 yX9_n wsX9_n) := goodIn_app (goodIn_of _ (by decide +kernel)) ggX9_remove_X9_n
set_option maxRecDepth 20000 in
theorem ggX9_remove_X9_m : GoodIn wsX9_remove wsX9_m := goodIn_r _ [19] (by decide +kernel) (by decide +kernel)
set_option maxRecDepth 20000 in
theorem gX9_remove_X9_m : GoodIn wsX9_remove (va_wsS RX9 53 yX9_m wsX9_m) := goodIn_app (goodIn_of _ (by decide +kernel)) ggX9_remove_X9_m
set_option maxRecDepth 20000 in
theorem ggX9_remove_X9_l : GoodIn wsX9_remove wsX9_l := goodIn_r _ [26] (by decide +kernel) (by decide +kernel)
set_option maxRecDepth 20000 in
theorem gX9_remove_X9_l : GoodIn wsX9_remove (va_wsS RX9 56 yX9_l wsX9_l) := goodIn_app (goodIn_of _ (by decide +kernel)) ggX9_remove_X9_l
set_option maxRecDepth 20000 in
theorem ggX9_remove_X9_recorded : GoodIn wsX9_remove wsX9_recorded := goodIn_r _ [35, 36, 37, 31, 38, 39, 40, 41, 42, 43, 44, 45, 46, 47, 48, 49, 50, 51, 52] (by decide +kernel) (by decide +kernel)
set_option maxRecDepth 20000 in
theorem gX9_remove_X9_recorded : GoodIn wsX9_remove (wsV RX9 132 RX9 yX9_recorded wsX9_recorded) := goodIn_app (goodIn_of _ (by decide +kernel)) ggX9_remove_X9_recorded
theorem dX9_remove_0 : decode cX9_remove 0 = .ok (.iload_n 1, 1) := by decide +kernel
theorem dX9_remove_1 : decode cX9_remove 1 = .ok (.iconst 0, 1) := by decide +kernel
theorem dX9_remove_2 : decode cX9_remove 2 = .ok (.iconst 2, 1) := by decide +kernel
theorem dX9_remove_3 : decode cX9_remove 3 = .ok (.invokestatic 46, 3) := by decide +kernel
theorem dX9_remove_6 : decode cX9_remove 6 = .ok (.ifCond .ne 6, 3) := by decide +kernel
theorem dX9_remove_9 : decode cX9_remove 9 = .ok (.bipush (-2), 2) := by decide +kernel
theorem dX9_remove_11 : decode cX9_remove 11 = .ok (.ireturn, 1) := by decide +kernel
theorem dX9_remove_12 : decode cX9_remove 12 = .ok (.iload_n 1, 1) := by decide +kernel
theorem dX9_remove_13 : decode cX9_remove 13 = .ok (.ifCond .ne 11, 3) := by decide +kernel
theorem dX9_remove_16 : decode cX9_remove 16 = .ok (.aload_n 0, 1) := by decide +kernel
theorem dX9_remove_17 : decode cX9_remove 17 = .ok (.iload_n 2, 1) := by decide +kernel
theorem dX9_remove_18 : decode cX9_remove 18 = .ok (.invokevirtual 67, 3) := by decide +kernel
theorem dX9_remove_21 : decode cX9_remove 21 = .ok (.goto 21, 3) := by decide +kernel
theorem dX9_remove_24 : decode cX9_remove 24 = .ok (.iload_n 1, 1) := by decide +kernel
theorem dX9_remove_25 : decode cX9_remove 25 = .ok (.iconst 1, 1) := by decide +kernel
theorem dX9_remove_26 : decode cX9_remove 26 = .ok (.if_icmp .ne 11, 3) := by decide +kernel
theorem dX9_remove_29 : decode cX9_remove 29 = .ok (.aload_n 0, 1) := by decide +kernel
theorem dX9_remove_30 : decode cX9_remove 30 = .ok (.iload_n 2, 1) := by decide +kernel
theorem dX9_remove_31 : decode cX9_remove 31 = .ok (.invokevirtual 81, 3) := by decide +kernel
theorem dX9_remove_34 : decode cX9_remove 34 = .ok (.goto 8, 3) := by decide +kernel
theorem dX9_remove_37 : decode cX9_remove 37 = .ok (.aload_n 0, 1) := by decide +kernel
theorem dX9_remove_38 : decode cX9_remove 38 = .ok (.iload_n 2, 1) := by decide +kernel
theorem dX9_remove_39 : decode cX9_remove 39 = .ok (.invokevirtual 88, 3) := by decide +kernel
theorem dX9_remove_42 : decode cX9_remove 42 = .ok (.istore_n 3, 1) := by decide +kernel
theorem dX9_remove_43 : decode cX9_remove 43 = .ok (.iload_n 3, 1) := by decide +kernel
theorem dX9_remove_44 : decode cX9_remove 44 = .ok (.ifCond .ne 5, 3) := by decide +kernel
theorem dX9_remove_47 : decode cX9_remove 47 = .ok (.iconst (-1), 1) := by decide +kernel
theorem dX9_remove_48 : decode cX9_remove 48 = .ok (.ireturn, 1) := by decide +kernel
theorem dX9_remove_49 : decode cX9_remove 49 = .ok (.aload_n 0, 1) := by decide +kernel
theorem dX9_remove_50 : decode cX9_remove 50 = .ok (.invokevirtual 125, 3) := by decide +kernel
theorem dX9_remove_53 : decode cX9_remove 53 = .ok (.iload_n 1, 1) := by decide +kernel
theorem dX9_remove_54 : decode cX9_remove 54 = .ok (.ifCond .ne 10, 3) := by decide +kernel
theorem dX9_remove_57 : decode cX9_remove 57 = .ok (.iload_n 2, 1) := by decide +kernel
theorem dX9_remove_58 : decode cX9_remove 58 = .ok (.invokestatic 50, 3) := by decide +kernel
theorem dX9_remove_61 : decode cX9_remove 61 = .ok (.goto 19, 3) := by decide +kernel
theorem dX9_remove_64 : decode cX9_remove 64 = .ok (.iload_n 1, 1) := by decide +kernel
theorem dX9_remove_65 : decode cX9_remove 65 = .ok (.iconst 1, 1) := by decide +kernel
theorem dX9_remove_66 : decode cX9_remove 66 = .ok (.if_icmp .ne 10, 3) := by decide +kernel
theorem dX9_remove_69 : decode cX9_remove 69 = .ok (.iload_n 2, 1) := by decide +kernel
theorem dX9_remove_70 : decode cX9_remove 70 = .ok (.invokestatic 53, 3) := by decide +kernel
theorem dX9_remove_73 : decode cX9_remove 73 = .ok (.goto 7, 3) := by decide +kernel
theorem dX9_remove_76 : decode cX9_remove 76 = .ok (.iload_n 2, 1) := by decide +kernel
theorem dX9_remove_77 : decode cX9_remove 77 = .ok (.invokestatic 56, 3) := by decide +kernel
theorem dX9_remove_80 : decode cX9_remove 80 = .ok (.istore 4, 2) := by decide +kernel
theorem dX9_remove_82 : decode cX9_remove 82 = .ok (.aload_n 0, 1) := by decide +kernel
theorem dX9_remove_83 : decode cX9_remove 83 = .ok (.getfield 7, 3) := by decide +kernel
theorem dX9_remove_86 : decode cX9_remove 86 = .ok (.iload 4, 2) := by decide +kernel
theorem dX9_remove_88 : decode cX9_remove 88 = .ok (.iconst 1, 1) := by decide +kernel
theorem dX9_remove_89 : decode cX9_remove 89 = .ok (.iadd, 1) := by decide +kernel
theorem dX9_remove_90 : decode cX9_remove 90 = .ok (.iaload, 1) := by decide +kernel
theorem dX9_remove_91 : decode cX9_remove 91 = .ok (.istore 5, 2) := by decide +kernel
theorem dX9_remove_93 : decode cX9_remove 93 = .ok (.aload_n 0, 1) := by decide +kernel
theorem dX9_remove_94 : decode cX9_remove 94 = .ok (.getfield 7, 3) := by decide +kernel
theorem dX9_remove_97 : decode cX9_remove 97 = .ok (.iload 4, 2) := by decide +kernel
theorem dX9_remove_99 : decode cX9_remove 99 = .ok (.iconst 0, 1) := by decide +kernel
theorem dX9_remove_100 : decode cX9_remove 100 = .ok (.iastore, 1) := by decide +kernel
theorem dX9_remove_101 : decode cX9_remove 101 = .ok (.aload_n 0, 1) := by decide +kernel
theorem dX9_remove_102 : decode cX9_remove 102 = .ok (.iload 5, 2) := by decide +kernel
theorem dX9_remove_104 : decode cX9_remove 104 = .ok (.invokevirtual 132, 3) := by decide +kernel
theorem dX9_remove_107 : decode cX9_remove 107 = .ok (.ireturn, 1) := by decide +kernel
set_option maxRecDepth 20000 in
theorem ggX9_say_X9_hold : GoodIn wsX9_say wsX9_hold := goodIn_r _ [5, 6, 7, 28, 29, 30, 31, 32, 33, 34, 35, 36, 37, 38, 39, 40, 41, 42] (by decide +kernel) (by decide +kernel)
set_option maxRecDepth 20000 in
theorem gX9_say_X9_hold : GoodIn wsX9_say (wsV RX9 125 RX9 yX9_hold wsX9_hold) := goodIn_app (goodIn_of _ (by decide +kernel)) ggX9_say_X9_hold
set_option maxRecDepth 20000 in
theorem ggX9_say_X9_says : GoodIn wsX9_say wsX9_says := goodIn_r _ [11, 7, 12, 13, 14, 4, 15, 16, 17, 18, 19, 20, 21, 28, 29, 30, 31, 32, 33, 34, 35, 36, 37, 38, 39, 40, 41, 42] (by decide +kernel) (by decide +kernel)
set_option maxRecDepth 20000 in
theorem gX9_say_X9_says : GoodIn wsX9_say (wsV RX9 135 RX9 yX9_says wsX9_says) := goodIn_app (goodIn_of _ (by decide +kernel)) ggX9_say_X9_says
set_option maxRecDepth 20000 in
theorem ggX9_say_X9_recorded : GoodIn wsX9_say wsX9_recorded := goodIn_r _ [25, 26, 27, 6, 28, 29, 30, 31, 32, 33, 34, 35, 36, 37, 38, 39, 40, 41, 42] (by decide +kernel) (by decide +kernel)
set_option maxRecDepth 20000 in
theorem gX9_say_X9_recorded : GoodIn wsX9_say (wsV RX9 132 RX9 yX9_recorded wsX9_recorded) := goodIn_app (goodIn_of _ (by decide +kernel)) ggX9_say_X9_recorded
theorem dX9_say_0 : decode cX9_say 0 = .ok (.aload_n 0, 1) := by decide +kernel
theorem dX9_say_1 : decode cX9_say 1 = .ok (.invokevirtual 125, 3) := by decide +kernel
theorem dX9_say_4 : decode cX9_say 4 = .ok (.aload_n 0, 1) := by decide +kernel
theorem dX9_say_5 : decode cX9_say 5 = .ok (.iload_n 1, 1) := by decide +kernel
theorem dX9_say_6 : decode cX9_say 6 = .ok (.iload_n 2, 1) := by decide +kernel
theorem dX9_say_7 : decode cX9_say 7 = .ok (.invokevirtual 135, 3) := by decide +kernel
theorem dX9_say_10 : decode cX9_say 10 = .ok (.istore_n 3, 1) := by decide +kernel
theorem dX9_say_11 : decode cX9_say 11 = .ok (.iload_n 3, 1) := by decide +kernel
theorem dX9_say_12 : decode cX9_say 12 = .ok (.ifCond .ge 7, 3) := by decide +kernel
theorem dX9_say_15 : decode cX9_say 15 = .ok (.iload_n 3, 1) := by decide +kernel
theorem dX9_say_16 : decode cX9_say 16 = .ok (.goto 8, 3) := by decide +kernel
theorem dX9_say_19 : decode cX9_say 19 = .ok (.aload_n 0, 1) := by decide +kernel
theorem dX9_say_20 : decode cX9_say 20 = .ok (.iload_n 3, 1) := by decide +kernel
theorem dX9_say_21 : decode cX9_say 21 = .ok (.invokevirtual 132, 3) := by decide +kernel
theorem dX9_say_24 : decode cX9_say 24 = .ok (.ireturn, 1) := by decide +kernel
set_option maxRecDepth 20000 in
theorem ggX9_run_X9_isMachine : GoodIn wsX9_run wsX9_isMachine := goodIn_r _ [6, 1, 7, 8, 5, 9, 10, 11, 12, 24, 25, 26, 27, 28, 29, 30, 31, 32, 33, 34, 35, 36, 37, 38] (by decide +kernel) (by decide +kernel)
set_option maxRecDepth 20000 in
theorem gX9_run_X9_isMachine : GoodIn wsX9_run (wsV RX9 81 RX9 yX9_isMachine wsX9_isMachine) := goodIn_app (goodIn_of _ (by decide +kernel)) ggX9_run_X9_isMachine
set_option maxRecDepth 20000 in
theorem ggX9_run_X9_hold : GoodIn wsX9_run wsX9_hold := goodIn_r _ [16, 17, 1, 24, 25, 26, 27, 28, 29, 30, 31, 32, 33, 34, 35, 36, 37, 38] (by decide +kernel) (by decide +kernel)
set_option maxRecDepth 20000 in
theorem gX9_run_X9_hold : GoodIn wsX9_run (wsV RX9 125 RX9 yX9_hold wsX9_hold) := goodIn_app (goodIn_of _ (by decide +kernel)) ggX9_run_X9_hold
set_option maxRecDepth 20000 in
theorem ggX9_run_X9_m : GoodIn wsX9_run wsX9_m := goodIn_r _ [12] (by decide +kernel) (by decide +kernel)
set_option maxRecDepth 20000 in
theorem gX9_run_X9_m : GoodIn wsX9_run (va_wsS RX9 53 yX9_m wsX9_m) := goodIn_app (goodIn_of _ (by decide +kernel)) ggX9_run_X9_m
set_option maxRecDepth 20000 in
theorem ggX9_run_X9_recorded : GoodIn wsX9_run wsX9_recorded := goodIn_r _ [21, 22, 23, 17, 24, 25, 26, 27, 28, 29, 30, 31, 32, 33, 34, 35, 36, 37, 38] (by decide +kernel) (by decide +kernel)
set_option maxRecDepth 20000 in
theorem gX9_run_X9_recorded : GoodIn wsX9_run (wsV RX9 132 RX9 yX9_recorded wsX9_recorded) := goodIn_app (goodIn_of _ (by decide +kernel)) ggX9_run_X9_recorded
theorem dX9_run_0 : decode cX9_run 0 = .ok (.aload_n 0, 1) := by decide +kernel
theorem dX9_run_1 : decode cX9_run 1 = .ok (.iload_n 1, 1) := by decide +kernel
theorem dX9_run_2 : decode cX9_run 2 = .ok (.invokevirtual 81, 3) := by decide +kernel
theorem dX9_run_5 : decode cX9_run 5 = .ok (.ifCond .ne 5, 3) := by decide +kernel
theorem dX9_run_8 : decode cX9_run 8 = .ok (.iconst (-1), 1) := by decide +kernel
theorem dX9_run_9 : decode cX9_run 9 = .ok (.ireturn, 1) := by decide +kernel
theorem dX9_run_10 : decode cX9_run 10 = .ok (.aload_n 0, 1) := by decide +kernel
theorem dX9_run_11 : decode cX9_run 11 = .ok (.invokevirtual 125, 3) := by decide +kernel
theorem dX9_run_14 : decode cX9_run 14 = .ok (.aload_n 0, 1) := by decide +kernel
theorem dX9_run_15 : decode cX9_run 15 = .ok (.getfield 7, 3) := by decide +kernel
theorem dX9_run_18 : decode cX9_run 18 = .ok (.iload_n 1, 1) := by decide +kernel
theorem dX9_run_19 : decode cX9_run 19 = .ok (.invokestatic 53, 3) := by decide +kernel
theorem dX9_run_22 : decode cX9_run 22 = .ok (.iconst 4, 1) := by decide +kernel
theorem dX9_run_23 : decode cX9_run 23 = .ok (.iadd, 1) := by decide +kernel
theorem dX9_run_24 : decode cX9_run 24 = .ok (.iaload, 1) := by decide +kernel
theorem dX9_run_25 : decode cX9_run 25 = .ok (.istore_n 3, 1) := by decide +kernel
theorem dX9_run_26 : decode cX9_run 26 = .ok (.aload_n 0, 1) := by decide +kernel
theorem dX9_run_27 : decode cX9_run 27 = .ok (.getfield 7, 3) := by decide +kernel
theorem dX9_run_30 : decode cX9_run 30 = .ok (.iload_n 1, 1) := by decide +kernel
theorem dX9_run_31 : decode cX9_run 31 = .ok (.invokestatic 53, 3) := by decide +kernel
theorem dX9_run_34 : decode cX9_run 34 = .ok (.iconst 4, 1) := by decide +kernel
theorem dX9_run_35 : decode cX9_run 35 = .ok (.iadd, 1) := by decide +kernel
theorem dX9_run_36 : decode cX9_run 36 = .ok (.iload_n 2, 1) := by decide +kernel
theorem dX9_run_37 : decode cX9_run 37 = .ok (.ifCond .eq 7, 3) := by decide +kernel
theorem dX9_run_40 : decode cX9_run 40 = .ok (.iconst 1, 1) := by decide +kernel
theorem dX9_run_41 : decode cX9_run 41 = .ok (.goto 4, 3) := by decide +kernel
theorem dX9_run_44 : decode cX9_run 44 = .ok (.iconst 0, 1) := by decide +kernel
theorem dX9_run_45 : decode cX9_run 45 = .ok (.iastore, 1) := by decide +kernel
theorem dX9_run_46 : decode cX9_run 46 = .ok (.aload_n 0, 1) := by decide +kernel
theorem dX9_run_47 : decode cX9_run 47 = .ok (.iload_n 3, 1) := by decide +kernel
theorem dX9_run_48 : decode cX9_run 48 = .ok (.invokevirtual 132, 3) := by decide +kernel
theorem dX9_run_51 : decode cX9_run 51 = .ok (.ireturn, 1) := by decide +kernel
set_option maxRecDepth 20000 in
theorem ggX9_set_X9_in : GoodIn wsX9_set wsX9_in := goodIn_r _ [5] (by decide +kernel) (by decide +kernel)
set_option maxRecDepth 20000 in
theorem gX9_set_X9_in : GoodIn wsX9_set (va_wsS RX9 46 yX9_in wsX9_in) := goodIn_app (goodIn_of _ (by decide +kernel)) ggX9_set_X9_in
set_option maxRecDepth 20000 in
theorem ggX9_set_X9_hold : GoodIn wsX9_set wsX9_hold := goodIn_r _ [9, 10, 1, 17, 18, 19, 20, 21, 22, 23, 24, 25, 26, 27, 28, 29, 30, 31] (by decide +kernel) (by decide +kernel)
set_option maxRecDepth 20000 in
theorem gX9_set_X9_hold : GoodIn wsX9_set (wsV RX9 125 RX9 yX9_hold wsX9_hold) := goodIn_app (goodIn_of _ (by decide +kernel)) ggX9_set_X9_hold
set_option maxRecDepth 20000 in
theorem ggX9_set_X9_recorded : GoodIn wsX9_set wsX9_recorded := goodIn_r _ [14, 15, 16, 10, 17, 18, 19, 20, 21, 22, 23, 24, 25, 26, 27, 28, 29, 30, 31] (by decide +kernel) (by decide +kernel)
set_option maxRecDepth 20000 in
theorem gX9_set_X9_recorded : GoodIn wsX9_set (wsV RX9 132 RX9 yX9_recorded wsX9_recorded) := goodIn_app (goodIn_of _ (by decide +kernel)) ggX9_set_X9_recorded
theorem dX9_set_0 : decode cX9_set 0 = .ok (.iload_n 1, 1) := by decide +kernel
theorem dX9_set_1 : decode cX9_set 1 = .ok (.iconst 0, 1) := by decide +kernel
theorem dX9_set_2 : decode cX9_set 2 = .ok (.iconst 3, 1) := by decide +kernel
theorem dX9_set_3 : decode cX9_set 3 = .ok (.invokestatic 46, 3) := by decide +kernel
theorem dX9_set_6 : decode cX9_set 6 = .ok (.ifCond .ne 5, 3) := by decide +kernel
theorem dX9_set_9 : decode cX9_set 9 = .ok (.iconst (-1), 1) := by decide +kernel
theorem dX9_set_10 : decode cX9_set 10 = .ok (.ireturn, 1) := by decide +kernel
theorem dX9_set_11 : decode cX9_set 11 = .ok (.iload_n 2, 1) := by decide +kernel
theorem dX9_set_12 : decode cX9_set 12 = .ok (.iload_n 1, 1) := by decide +kernel
theorem dX9_set_13 : decode cX9_set 13 = .ok (.iconst 2, 1) := by decide +kernel
theorem dX9_set_14 : decode cX9_set 14 = .ok (.if_icmp .ge 7, 3) := by decide +kernel
theorem dX9_set_17 : decode cX9_set 17 = .ok (.iconst 0, 1) := by decide +kernel
theorem dX9_set_18 : decode cX9_set 18 = .ok (.goto 4, 3) := by decide +kernel
theorem dX9_set_21 : decode cX9_set 21 = .ok (.iconst 1, 1) := by decide +kernel
theorem dX9_set_22 : decode cX9_set 22 = .ok (.iload_n 1, 1) := by decide +kernel
theorem dX9_set_23 : decode cX9_set 23 = .ok (.iconst 3, 1) := by decide +kernel
theorem dX9_set_24 : decode cX9_set 24 = .ok (.if_icmp .ne 7, 3) := by decide +kernel
theorem dX9_set_27 : decode cX9_set 27 = .ok (.iconst 3, 1) := by decide +kernel
theorem dX9_set_28 : decode cX9_set 28 = .ok (.goto 5, 3) := by decide +kernel
theorem dX9_set_31 : decode cX9_set 31 = .ok (.bipush 9, 2) := by decide +kernel
theorem dX9_set_33 : decode cX9_set 33 = .ok (.invokestatic 46, 3) := by decide +kernel
theorem dX9_set_36 : decode cX9_set 36 = .ok (.ifCond .ne 6, 3) := by decide +kernel
theorem dX9_set_39 : decode cX9_set 39 = .ok (.bipush (-2), 2) := by decide +kernel
theorem dX9_set_41 : decode cX9_set 41 = .ok (.ireturn, 1) := by decide +kernel
theorem dX9_set_42 : decode cX9_set 42 = .ok (.aload_n 0, 1) := by decide +kernel
theorem dX9_set_43 : decode cX9_set 43 = .ok (.invokevirtual 125, 3) := by decide +kernel
theorem dX9_set_46 : decode cX9_set 46 = .ok (.aload_n 0, 1) := by decide +kernel
theorem dX9_set_47 : decode cX9_set 47 = .ok (.getfield 7, 3) := by decide +kernel
theorem dX9_set_50 : decode cX9_set 50 = .ok (.iload_n 1, 1) := by decide +kernel
theorem dX9_set_51 : decode cX9_set 51 = .ok (.iaload, 1) := by decide +kernel
theorem dX9_set_52 : decode cX9_set 52 = .ok (.istore_n 3, 1) := by decide +kernel
theorem dX9_set_53 : decode cX9_set 53 = .ok (.aload_n 0, 1) := by decide +kernel
theorem dX9_set_54 : decode cX9_set 54 = .ok (.getfield 7, 3) := by decide +kernel
theorem dX9_set_57 : decode cX9_set 57 = .ok (.iload_n 1, 1) := by decide +kernel
theorem dX9_set_58 : decode cX9_set 58 = .ok (.iload_n 2, 1) := by decide +kernel
theorem dX9_set_59 : decode cX9_set 59 = .ok (.iastore, 1) := by decide +kernel
theorem dX9_set_60 : decode cX9_set 60 = .ok (.aload_n 0, 1) := by decide +kernel
theorem dX9_set_61 : decode cX9_set 61 = .ok (.iload_n 3, 1) := by decide +kernel
theorem dX9_set_62 : decode cX9_set 62 = .ok (.invokevirtual 132, 3) := by decide +kernel
theorem dX9_set_65 : decode cX9_set 65 = .ok (.ireturn, 1) := by decide +kernel
set_option maxRecDepth 20000 in
theorem ggX9_pass_X9_hold : GoodIn wsX9_pass wsX9_hold := goodIn_r _ [5, 6, 7, 103, 104, 105, 106, 107, 108, 109, 110, 111, 112, 113, 114, 115, 116, 117] (by decide +kernel) (by decide +kernel)
set_option maxRecDepth 20000 in
theorem gX9_pass_X9_hold : GoodIn wsX9_pass (wsV RX9 125 RX9 yX9_hold wsX9_hold) := goodIn_app (goodIn_of _ (by decide +kernel)) ggX9_pass_X9_hold
set_option maxRecDepth 20000 in
theorem ggX9_pass_X9_passes : GoodIn wsX9_pass wsX9_passes := goodIn_r _ [11, 7, 12, 13, 4, 14, 15, 16, 17, 18, 19, 20, 21, 22, 23, 24, 25, 26, 27, 28, 29, 30, 31, 32, 33, 34, 35, 36, 37, 38, 39, 40, 41, 42, 43, 44, 45, 46, 47, 48, 49, 50, 51, 52, 53, 54, 55, 56, 57, 58, 59, 60, 61, 62, 63, 64, 65, 66, 67, 68, 69, 70, 71, 72, 73, 74, 75, 76, 77, 78, 79, 80, 81, 82, 83, 84, 85, 86, 87, 88, 89, 90, 91, 92, 93, 94, 95, 96, 103, 104, 105, 106, 107, 108, 109, 110, 111, 112, 113, 114, 115, 116, 117] (by decide +kernel) (by decide +kernel)
set_option maxRecDepth 20000 in
theorem gX9_pass_X9_passes : GoodIn wsX9_pass (wsV RX9 138 RX9 yX9_passes wsX9_passes) := goodIn_app (goodIn_of _ (by decide +kernel)) ggX9_pass_X9_passes
set_option maxRecDepth 20000 in
theorem ggX9_pass_X9_recorded : GoodIn wsX9_pass wsX9_recorded := goodIn_r _ [100, 101, 102, 6, 103, 104, 105, 106, 107, 108, 109, 110, 111, 112, 113, 114, 115, 116, 117] (by decide +kernel) (by decide +kernel)
set_option maxRecDepth 20000 in
theorem gX9_pass_X9_recorded : GoodIn wsX9_pass (wsV RX9 132 RX9 yX9_recorded wsX9_recorded) := goodIn_app (goodIn_of _ (by decide +kernel)) ggX9_pass_X9_recorded
theorem dX9_pass_0 : decode cX9_pass 0 = .ok (.aload_n 0, 1) := by decide +kernel
theorem dX9_pass_1 : decode cX9_pass 1 = .ok (.invokevirtual 125, 3) := by decide +kernel
theorem dX9_pass_4 : decode cX9_pass 4 = .ok (.aload_n 0, 1) := by decide +kernel
theorem dX9_pass_5 : decode cX9_pass 5 = .ok (.iload_n 1, 1) := by decide +kernel
theorem dX9_pass_6 : decode cX9_pass 6 = .ok (.invokevirtual 138, 3) := by decide +kernel
theorem dX9_pass_9 : decode cX9_pass 9 = .ok (.istore_n 2, 1) := by decide +kernel
theorem dX9_pass_10 : decode cX9_pass 10 = .ok (.iload_n 2, 1) := by decide +kernel
theorem dX9_pass_11 : decode cX9_pass 11 = .ok (.ifCond .ge 7, 3) := by decide +kernel
theorem dX9_pass_14 : decode cX9_pass 14 = .ok (.iload_n 2, 1) := by decide +kernel
theorem dX9_pass_15 : decode cX9_pass 15 = .ok (.goto 8, 3) := by decide +kernel
theorem dX9_pass_18 : decode cX9_pass 18 = .ok (.aload_n 0, 1) := by decide +kernel
theorem dX9_pass_19 : decode cX9_pass 19 = .ok (.iload_n 2, 1) := by decide +kernel
theorem dX9_pass_20 : decode cX9_pass 20 = .ok (.invokevirtual 132, 3) := by decide +kernel
theorem dX9_pass_23 : decode cX9_pass 23 = .ok (.ireturn, 1) := by decide +kernel
set_option maxRecDepth 20000 in
theorem ggX9_append_X9_in : GoodIn wsX9_append wsX9_in := goodIn_r _ [6] (by decide +kernel) (by decide +kernel)
set_option maxRecDepth 20000 in
theorem gX9_append_X9_in : GoodIn wsX9_append (va_wsS RX9 46 yX9_in wsX9_in) := goodIn_app (goodIn_of _ (by decide +kernel)) ggX9_append_X9_in
theorem dX9_append_0 : decode cX9_append 0 = .ok (.iload_n 1, 1) := by decide +kernel
theorem dX9_append_1 : decode cX9_append 1 = .ok (.bipush 32, 2) := by decide +kernel
theorem dX9_append_3 : decode cX9_append 3 = .ok (.bipush 126, 2) := by decide +kernel
theorem dX9_append_5 : decode cX9_append 5 = .ok (.invokestatic 46, 3) := by decide +kernel
theorem dX9_append_8 : decode cX9_append 8 = .ok (.ifCond .ne 6, 3) := by decide +kernel
theorem dX9_append_11 : decode cX9_append 11 = .ok (.bipush (-2), 2) := by decide +kernel
theorem dX9_append_13 : decode cX9_append 13 = .ok (.ireturn, 1) := by decide +kernel
theorem dX9_append_14 : decode cX9_append 14 = .ok (.aload_n 0, 1) := by decide +kernel
theorem dX9_append_15 : decode cX9_append 15 = .ok (.getfield 141, 3) := by decide +kernel
theorem dX9_append_18 : decode cX9_append 18 = .ok (.bipush 80, 2) := by decide +kernel
theorem dX9_append_20 : decode cX9_append 20 = .ok (.if_icmp .ne 6, 3) := by decide +kernel
theorem dX9_append_23 : decode cX9_append 23 = .ok (.bipush (-3), 2) := by decide +kernel
theorem dX9_append_25 : decode cX9_append 25 = .ok (.ireturn, 1) := by decide +kernel
theorem dX9_append_26 : decode cX9_append 26 = .ok (.aload_n 0, 1) := by decide +kernel
theorem dX9_append_27 : decode cX9_append 27 = .ok (.getfield 38, 3) := by decide +kernel
theorem dX9_append_30 : decode cX9_append 30 = .ok (.aload_n 0, 1) := by decide +kernel
theorem dX9_append_31 : decode cX9_append 31 = .ok (.getfield 141, 3) := by decide +kernel
theorem dX9_append_34 : decode cX9_append 34 = .ok (.iload_n 1, 1) := by decide +kernel
theorem dX9_append_35 : decode cX9_append 35 = .ok (.i2c, 1) := by decide +kernel
theorem dX9_append_36 : decode cX9_append 36 = .ok (.castore, 1) := by decide +kernel
theorem dX9_append_37 : decode cX9_append 37 = .ok (.aload_n 0, 1) := by decide +kernel
theorem dX9_append_38 : decode cX9_append 38 = .ok (.dup, 1) := by decide +kernel
theorem dX9_append_39 : decode cX9_append 39 = .ok (.getfield 141, 3) := by decide +kernel
theorem dX9_append_42 : decode cX9_append 42 = .ok (.iconst 1, 1) := by decide +kernel
theorem dX9_append_43 : decode cX9_append 43 = .ok (.iadd, 1) := by decide +kernel
theorem dX9_append_44 : decode cX9_append 44 = .ok (.putfield 141, 3) := by decide +kernel
theorem dX9_append_47 : decode cX9_append 47 = .ok (.aload_n 0, 1) := by decide +kernel
theorem dX9_append_48 : decode cX9_append 48 = .ok (.getfield 141, 3) := by decide +kernel
theorem dX9_append_51 : decode cX9_append 51 = .ok (.ireturn, 1) := by decide +kernel
theorem dX9_clearText_0 : decode cX9_clearText 0 = .ok (.aload_n 0, 1) := by decide +kernel
theorem dX9_clearText_1 : decode cX9_clearText 1 = .ok (.getfield 141, 3) := by decide +kernel
theorem dX9_clearText_4 : decode cX9_clearText 4 = .ok (.istore_n 1, 1) := by decide +kernel
theorem dX9_clearText_5 : decode cX9_clearText 5 = .ok (.aload_n 0, 1) := by decide +kernel
theorem dX9_clearText_6 : decode cX9_clearText 6 = .ok (.iconst 0, 1) := by decide +kernel
theorem dX9_clearText_7 : decode cX9_clearText 7 = .ok (.putfield 141, 3) := by decide +kernel
theorem dX9_clearText_10 : decode cX9_clearText 10 = .ok (.iload_n 1, 1) := by decide +kernel
theorem dX9_clearText_11 : decode cX9_clearText 11 = .ok (.ireturn, 1) := by decide +kernel
theorem dX9_isSign_0 : decode cX9_isSign 0 = .ok (.aload_n 0, 1) := by decide +kernel
theorem dX9_isSign_1 : decode cX9_isSign 1 = .ok (.getfield 144, 3) := by decide +kernel
theorem dX9_isSign_4 : decode cX9_isSign 4 = .ok (.aload_n 0, 1) := by decide +kernel
theorem dX9_isSign_5 : decode cX9_isSign 5 = .ok (.getfield 141, 3) := by decide +kernel
theorem dX9_isSign_8 : decode cX9_isSign 8 = .ok (.if_icmp .ge 33, 3) := by decide +kernel
theorem dX9_isSign_11 : decode cX9_isSign 11 = .ok (.aload_n 0, 1) := by decide +kernel
theorem dX9_isSign_12 : decode cX9_isSign 12 = .ok (.getfield 38, 3) := by decide +kernel
theorem dX9_isSign_15 : decode cX9_isSign 15 = .ok (.aload_n 0, 1) := by decide +kernel
theorem dX9_isSign_16 : decode cX9_isSign 16 = .ok (.getfield 144, 3) := by decide +kernel
theorem dX9_isSign_19 : decode cX9_isSign 19 = .ok (.caload, 1) := by decide +kernel
theorem dX9_isSign_20 : decode cX9_isSign 20 = .ok (.iload_n 1, 1) := by decide +kernel
theorem dX9_isSign_21 : decode cX9_isSign 21 = .ok (.if_icmp .lt 20, 3) := by decide +kernel
theorem dX9_isSign_24 : decode cX9_isSign 24 = .ok (.aload_n 0, 1) := by decide +kernel
theorem dX9_isSign_25 : decode cX9_isSign 25 = .ok (.getfield 38, 3) := by decide +kernel
theorem dX9_isSign_28 : decode cX9_isSign 28 = .ok (.aload_n 0, 1) := by decide +kernel
theorem dX9_isSign_29 : decode cX9_isSign 29 = .ok (.getfield 144, 3) := by decide +kernel
theorem dX9_isSign_32 : decode cX9_isSign 32 = .ok (.caload, 1) := by decide +kernel
theorem dX9_isSign_33 : decode cX9_isSign 33 = .ok (.iload_n 2, 1) := by decide +kernel
theorem dX9_isSign_34 : decode cX9_isSign 34 = .ok (.if_icmp .gt 7, 3) := by decide +kernel
theorem dX9_isSign_37 : decode cX9_isSign 37 = .ok (.iconst 1, 1) := by decide +kernel
theorem dX9_isSign_38 : decode cX9_isSign 38 = .ok (.goto 4, 3) := by decide +kernel
theorem dX9_isSign_41 : decode cX9_isSign 41 = .ok (.iconst 0, 1) := by decide +kernel
theorem dX9_isSign_42 : decode cX9_isSign 42 = .ok (.ireturn, 1) := by decide +kernel
set_option maxRecDepth 20000 in
theorem ggX9_accepts_X9_isSign : GoodIn wsX9_accepts wsX9_isSign := goodIn_r _ [6, 1, 7, 8, 9, 10, 11, 12, 13, 14, 15, 16, 17, 18, 19, 20, 21, 22, 23] (by decide +kernel) (by decide +kernel)
set_option maxRecDepth 20000 in
theorem gX9_accepts_X9_isSign : GoodIn wsX9_accepts (wsV RX9 147 RX9 yX9_isSign wsX9_isSign) := goodIn_app (goodIn_of _ (by decide +kernel)) ggX9_accepts_X9_isSign
theorem dX9_accepts_0 : decode cX9_accepts 0 = .ok (.aload_n 0, 1) := by decide +kernel
theorem dX9_accepts_1 : decode cX9_accepts 1 = .ok (.iload_n 1, 1) := by decide +kernel
theorem dX9_accepts_2 : decode cX9_accepts 2 = .ok (.iload_n 1, 1) := by decide +kernel
theorem dX9_accepts_3 : decode cX9_accepts 3 = .ok (.invokevirtual 147, 3) := by decide +kernel
theorem dX9_accepts_6 : decode cX9_accepts 6 = .ok (.istore_n 2, 1) := by decide +kernel
theorem dX9_accepts_7 : decode cX9_accepts 7 = .ok (.aload_n 0, 1) := by decide +kernel
theorem dX9_accepts_8 : decode cX9_accepts 8 = .ok (.dup, 1) := by decide +kernel
theorem dX9_accepts_9 : decode cX9_accepts 9 = .ok (.getfield 144, 3) := by decide +kernel
theorem dX9_accepts_12 : decode cX9_accepts 12 = .ok (.iload_n 2, 1) := by decide +kernel
theorem dX9_accepts_13 : decode cX9_accepts 13 = .ok (.ifCond .eq 7, 3) := by decide +kernel
theorem dX9_accepts_16 : decode cX9_accepts 16 = .ok (.iconst 1, 1) := by decide +kernel
theorem dX9_accepts_17 : decode cX9_accepts 17 = .ok (.goto 4, 3) := by decide +kernel
theorem dX9_accepts_20 : decode cX9_accepts 20 = .ok (.iconst 0, 1) := by decide +kernel
theorem dX9_accepts_21 : decode cX9_accepts 21 = .ok (.iadd, 1) := by decide +kernel
theorem dX9_accepts_22 : decode cX9_accepts 22 = .ok (.putfield 144, 3) := by decide +kernel
theorem dX9_accepts_25 : decode cX9_accepts 25 = .ok (.iload_n 2, 1) := by decide +kernel
theorem dX9_accepts_26 : decode cX9_accepts 26 = .ok (.ireturn, 1) := by decide +kernel
set_option maxRecDepth 20000 in
theorem ggX9_code_X9_isSign : GoodIn wsX9_code wsX9_isSign := goodIn_r _ [7, 2, 8, 1, 13, 14, 15, 16, 17, 18, 19, 20, 21, 22, 23, 24, 25, 26, 27] (by decide +kernel) (by decide +kernel)
set_option maxRecDepth 20000 in
theorem gX9_code_X9_isSign : GoodIn wsX9_code (wsV RX9 147 RX9 yX9_isSign wsX9_isSign) := goodIn_app (goodIn_of _ (by decide +kernel)) ggX9_code_X9_isSign
set_option maxRecDepth 20000 in
theorem ggX9_code_X9_accepts : GoodIn wsX9_code wsX9_accepts := goodIn_r _ [12, 2, 3, 4, 5, 6, 7, 8, 1, 13, 14, 15, 16, 17, 18, 19, 20, 21, 22, 23, 24, 25, 26, 27] (by decide +kernel) (by decide +kernel)
set_option maxRecDepth 20000 in
theorem gX9_code_X9_accepts : GoodIn wsX9_code (wsV RX9 151 RX9 yX9_accepts wsX9_accepts) := goodIn_app (goodIn_of _ (by decide +kernel)) ggX9_code_X9_accepts
theorem dX9_code_0 : decode cX9_code 0 = .ok (.aload_n 0, 1) := by decide +kernel
theorem dX9_code_1 : decode cX9_code 1 = .ok (.bipush 48, 2) := by decide +kernel
theorem dX9_code_3 : decode cX9_code 3 = .ok (.bipush 51, 2) := by decide +kernel
theorem dX9_code_5 : decode cX9_code 5 = .ok (.invokevirtual 147, 3) := by decide +kernel
theorem dX9_code_8 : decode cX9_code 8 = .ok (.ifCond .eq 28, 3) := by decide +kernel
theorem dX9_code_11 : decode cX9_code 11 = .ok (.aload_n 0, 1) := by decide +kernel
theorem dX9_code_12 : decode cX9_code 12 = .ok (.getfield 38, 3) := by decide +kernel
theorem dX9_code_15 : decode cX9_code 15 = .ok (.aload_n 0, 1) := by decide +kernel
theorem dX9_code_16 : decode cX9_code 16 = .ok (.getfield 144, 3) := by decide +kernel
theorem dX9_code_19 : decode cX9_code 19 = .ok (.caload, 1) := by decide +kernel
theorem dX9_code_20 : decode cX9_code 20 = .ok (.bipush 48, 2) := by decide +kernel
theorem dX9_code_22 : decode cX9_code 22 = .ok (.isub, 1) := by decide +kernel
theorem dX9_code_23 : decode cX9_code 23 = .ok (.istore_n 1, 1) := by decide +kernel
theorem dX9_code_24 : decode cX9_code 24 = .ok (.aload_n 0, 1) := by decide +kernel
theorem dX9_code_25 : decode cX9_code 25 = .ok (.dup, 1) := by decide +kernel
theorem dX9_code_26 : decode cX9_code 26 = .ok (.getfield 144, 3) := by decide +kernel
theorem dX9_code_29 : decode cX9_code 29 = .ok (.iconst 1, 1) := by decide +kernel
theorem dX9_code_30 : decode cX9_code 30 = .ok (.iadd, 1) := by decide +kernel
theorem dX9_code_31 : decode cX9_code 31 = .ok (.putfield 144, 3) := by decide +kernel
theorem dX9_code_34 : decode cX9_code 34 = .ok (.iload_n 1, 1) := by decide +kernel
theorem dX9_code_35 : decode cX9_code 35 = .ok (.ireturn, 1) := by decide +kernel
theorem dX9_code_36 : decode cX9_code 36 = .ok (.aload_n 0, 1) := by decide +kernel
theorem dX9_code_37 : decode cX9_code 37 = .ok (.bipush 43, 2) := by decide +kernel
theorem dX9_code_39 : decode cX9_code 39 = .ok (.invokevirtual 151, 3) := by decide +kernel
theorem dX9_code_42 : decode cX9_code 42 = .ok (.ifCond .eq 7, 3) := by decide +kernel
theorem dX9_code_45 : decode cX9_code 45 = .ok (.iconst 4, 1) := by decide +kernel
theorem dX9_code_46 : decode cX9_code 46 = .ok (.goto 45, 3) := by decide +kernel
theorem dX9_code_49 : decode cX9_code 49 = .ok (.aload_n 0, 1) := by decide +kernel
theorem dX9_code_50 : decode cX9_code 50 = .ok (.bipush 45, 2) := by decide +kernel
theorem dX9_code_52 : decode cX9_code 52 = .ok (.invokevirtual 151, 3) := by decide +kernel
theorem dX9_code_55 : decode cX9_code 55 = .ok (.ifCond .eq 7, 3) := by decide +kernel
theorem dX9_code_58 : decode cX9_code 58 = .ok (.iconst 5, 1) := by decide +kernel
theorem dX9_code_59 : decode cX9_code 59 = .ok (.goto 32, 3) := by decide +kernel
theorem dX9_code_62 : decode cX9_code 62 = .ok (.aload_n 0, 1) := by decide +kernel
theorem dX9_code_63 : decode cX9_code 63 = .ok (.bipush 94, 2) := by decide +kernel
theorem dX9_code_65 : decode cX9_code 65 = .ok (.invokevirtual 151, 3) := by decide +kernel
theorem dX9_code_68 : decode cX9_code 68 = .ok (.ifCond .eq 8, 3) := by decide +kernel
theorem dX9_code_71 : decode cX9_code 71 = .ok (.bipush 6, 2) := by decide +kernel
theorem dX9_code_73 : decode cX9_code 73 = .ok (.goto 18, 3) := by decide +kernel
theorem dX9_code_76 : decode cX9_code 76 = .ok (.aload_n 0, 1) := by decide +kernel
theorem dX9_code_77 : decode cX9_code 77 = .ok (.bipush 33, 2) := by decide +kernel
theorem dX9_code_79 : decode cX9_code 79 = .ok (.invokevirtual 151, 3) := by decide +kernel
theorem dX9_code_82 : decode cX9_code 82 = .ok (.ifCond .eq 8, 3) := by decide +kernel
theorem dX9_code_85 : decode cX9_code 85 = .ok (.bipush 7, 2) := by decide +kernel
theorem dX9_code_87 : decode cX9_code 87 = .ok (.goto 4, 3) := by decide +kernel
theorem dX9_code_90 : decode cX9_code 90 = .ok (.iconst (-1), 1) := by decide +kernel
theorem dX9_code_91 : decode cX9_code 91 = .ok (.ireturn, 1) := by decide +kernel
set_option maxRecDepth 20000 in
theorem ggX9_word_X9_isSign : GoodIn wsX9_word wsX9_isSign := goodIn_r _ [9, 2, 10, 1, 19, 20, 21, 22, 23, 24, 25, 26, 27, 28, 29, 30, 31, 32, 33] (by decide +kernel) (by decide +kernel)
set_option maxRecDepth 20000 in
theorem gX9_word_X9_isSign : GoodIn wsX9_word (wsV RX9 147 RX9 yX9_isSign wsX9_isSign) := goodIn_app (goodIn_of _ (by decide +kernel)) ggX9_word_X9_isSign
set_option maxRecDepth 20000 in
theorem ggX9_word_X9_code : GoodIn wsX9_word wsX9_code := goodIn_r _ [14, 1, 2, 5, 6, 7, 8, 9, 10, 15, 16, 17, 18, 19, 20, 21, 22, 23, 24, 25, 26, 27, 28, 29, 30, 31, 32, 33] (by decide +kernel) (by decide +kernel)
set_option maxRecDepth 20000 in
theorem gX9_word_X9_code : GoodIn wsX9_word (wsV RX9 155 RX9 yX9_code wsX9_code) := goodIn_app (goodIn_of _ (by decide +kernel)) ggX9_word_X9_code
theorem dX9_word_0 : decode cX9_word 0 = .ok (.aload_n 0, 1) := by decide +kernel
theorem dX9_word_1 : decode cX9_word 1 = .ok (.bipush 65, 2) := by decide +kernel
theorem dX9_word_3 : decode cX9_word 3 = .ok (.bipush 68, 2) := by decide +kernel
theorem dX9_word_5 : decode cX9_word 5 = .ok (.invokevirtual 147, 3) := by decide +kernel
theorem dX9_word_8 : decode cX9_word 8 = .ok (.ifCond .ne 5, 3) := by decide +kernel
theorem dX9_word_11 : decode cX9_word 11 = .ok (.iconst 0, 1) := by decide +kernel
theorem dX9_word_12 : decode cX9_word 12 = .ok (.ireturn, 1) := by decide +kernel
theorem dX9_word_13 : decode cX9_word 13 = .ok (.aload_n 0, 1) := by decide +kernel
theorem dX9_word_14 : decode cX9_word 14 = .ok (.getfield 38, 3) := by decide +kernel
theorem dX9_word_17 : decode cX9_word 17 = .ok (.aload_n 0, 1) := by decide +kernel
theorem dX9_word_18 : decode cX9_word 18 = .ok (.getfield 144, 3) := by decide +kernel
theorem dX9_word_21 : decode cX9_word 21 = .ok (.caload, 1) := by decide +kernel
theorem dX9_word_22 : decode cX9_word 22 = .ok (.bipush 65, 2) := by decide +kernel
theorem dX9_word_24 : decode cX9_word 24 = .ok (.isub, 1) := by decide +kernel
theorem dX9_word_25 : decode cX9_word 25 = .ok (.istore_n 2, 1) := by decide +kernel
theorem dX9_word_26 : decode cX9_word 26 = .ok (.aload_n 0, 1) := by decide +kernel
theorem dX9_word_27 : decode cX9_word 27 = .ok (.dup, 1) := by decide +kernel
theorem dX9_word_28 : decode cX9_word 28 = .ok (.getfield 144, 3) := by decide +kernel
theorem dX9_word_31 : decode cX9_word 31 = .ok (.iconst 1, 1) := by decide +kernel
theorem dX9_word_32 : decode cX9_word 32 = .ok (.iadd, 1) := by decide +kernel
theorem dX9_word_33 : decode cX9_word 33 = .ok (.putfield 144, 3) := by decide +kernel
theorem dX9_word_36 : decode cX9_word 36 = .ok (.aload_n 0, 1) := by decide +kernel
theorem dX9_word_37 : decode cX9_word 37 = .ok (.invokevirtual 155, 3) := by decide +kernel
theorem dX9_word_40 : decode cX9_word 40 = .ok (.istore_n 3, 1) := by decide +kernel
theorem dX9_word_41 : decode cX9_word 41 = .ok (.aload_n 0, 1) := by decide +kernel
theorem dX9_word_42 : decode cX9_word 42 = .ok (.getfield 35, 3) := by decide +kernel
theorem dX9_word_45 : decode cX9_word 45 = .ok (.iconst 2, 1) := by decide +kernel
theorem dX9_word_46 : decode cX9_word 46 = .ok (.aload_n 0, 1) := by decide +kernel
theorem dX9_word_47 : decode cX9_word 47 = .ok (.getfield 159, 3) := by decide +kernel
theorem dX9_word_50 : decode cX9_word 50 = .ok (.imul, 1) := by decide +kernel
theorem dX9_word_51 : decode cX9_word 51 = .ok (.iload_n 1, 1) := by decide +kernel
theorem dX9_word_52 : decode cX9_word 52 = .ok (.iastore, 1) := by decide +kernel
theorem dX9_word_53 : decode cX9_word 53 = .ok (.aload_n 0, 1) := by decide +kernel
theorem dX9_word_54 : decode cX9_word 54 = .ok (.getfield 35, 3) := by decide +kernel
theorem dX9_word_57 : decode cX9_word 57 = .ok (.iconst 2, 1) := by decide +kernel
theorem dX9_word_58 : decode cX9_word 58 = .ok (.aload_n 0, 1) := by decide +kernel
theorem dX9_word_59 : decode cX9_word 59 = .ok (.getfield 159, 3) := by decide +kernel
theorem dX9_word_62 : decode cX9_word 62 = .ok (.imul, 1) := by decide +kernel
theorem dX9_word_63 : decode cX9_word 63 = .ok (.iconst 1, 1) := by decide +kernel
theorem dX9_word_64 : decode cX9_word 64 = .ok (.iadd, 1) := by decide +kernel
theorem dX9_word_65 : decode cX9_word 65 = .ok (.bipush 8, 2) := by decide +kernel
theorem dX9_word_67 : decode cX9_word 67 = .ok (.iload_n 2, 1) := by decide +kernel
theorem dX9_word_68 : decode cX9_word 68 = .ok (.imul, 1) := by decide +kernel
theorem dX9_word_69 : decode cX9_word 69 = .ok (.iload_n 3, 1) := by decide +kernel
theorem dX9_word_70 : decode cX9_word 70 = .ok (.iadd, 1) := by decide +kernel
theorem dX9_word_71 : decode cX9_word 71 = .ok (.iastore, 1) := by decide +kernel
theorem dX9_word_72 : decode cX9_word 72 = .ok (.aload_n 0, 1) := by decide +kernel
theorem dX9_word_73 : decode cX9_word 73 = .ok (.dup, 1) := by decide +kernel
theorem dX9_word_74 : decode cX9_word 74 = .ok (.getfield 159, 3) := by decide +kernel
theorem dX9_word_77 : decode cX9_word 77 = .ok (.iload_n 3, 1) := by decide +kernel
theorem dX9_word_78 : decode cX9_word 78 = .ok (.ifCond .lt 7, 3) := by decide +kernel
theorem dX9_word_81 : decode cX9_word 81 = .ok (.iconst 1, 1) := by decide +kernel
theorem dX9_word_82 : decode cX9_word 82 = .ok (.goto 4, 3) := by decide +kernel
theorem dX9_word_85 : decode cX9_word 85 = .ok (.iconst 0, 1) := by decide +kernel
theorem dX9_word_86 : decode cX9_word 86 = .ok (.iadd, 1) := by decide +kernel
theorem dX9_word_87 : decode cX9_word 87 = .ok (.putfield 159, 3) := by decide +kernel
theorem dX9_word_90 : decode cX9_word 90 = .ok (.iload_n 3, 1) := by decide +kernel
theorem dX9_word_91 : decode cX9_word 91 = .ok (.ifCond .lt 7, 3) := by decide +kernel
theorem dX9_word_94 : decode cX9_word 94 = .ok (.iconst 1, 1) := by decide +kernel
theorem dX9_word_95 : decode cX9_word 95 = .ok (.goto 4, 3) := by decide +kernel
theorem dX9_word_98 : decode cX9_word 98 = .ok (.iconst 0, 1) := by decide +kernel
theorem dX9_word_99 : decode cX9_word 99 = .ok (.ireturn, 1) := by decide +kernel
set_option maxRecDepth 20000 in
theorem ggX9_words_X9_accepts : GoodIn wsX9_words wsX9_accepts := goodIn_r _ [7, 2, 8, 9, 10, 6, 11, 12, 1, 23, 24, 25, 26, 27, 28, 29, 30, 31, 32, 33, 34, 35, 36, 37] (by decide +kernel) (by decide +kernel)
set_option maxRecDepth 20000 in
theorem gX9_words_X9_accepts : GoodIn wsX9_words (wsV RX9 151 RX9 yX9_accepts wsX9_accepts) := goodIn_app (goodIn_of _ (by decide +kernel)) ggX9_words_X9_accepts
set_option maxRecDepth 20000 in
theorem ggX9_words_X9_word : GoodIn wsX9_words wsX9_word := goodIn_r _ [16, 1, 2, 17, 18, 8, 9, 10, 6, 11, 12, 19, 20, 21, 22, 3, 4, 5, 7, 23, 24, 25, 26, 27, 28, 29, 30, 31, 32, 33, 34, 35, 36, 37] (by decide +kernel) (by decide +kernel)
set_option maxRecDepth 20000 in
theorem gX9_words_X9_word : GoodIn wsX9_words (wsV RX9 162 RX9 yX9_word wsX9_word) := goodIn_app (goodIn_of _ (by decide +kernel)) ggX9_words_X9_word
set_option maxRecDepth 20000 in
theorem ggX9_words_X9_isSign : GoodIn wsX9_words wsX9_isSign := goodIn_r _ [11, 2, 12, 1, 23, 24, 25, 26, 27, 28, 29, 30, 31, 32, 33, 34, 35, 36, 37] (by decide +kernel) (by decide +kernel)
set_option maxRecDepth 20000 in
theorem gX9_words_X9_isSign : GoodIn wsX9_words (wsV RX9 147 RX9 yX9_isSign wsX9_isSign) := goodIn_app (goodIn_of _ (by decide +kernel)) ggX9_words_X9_isSign
theorem dX9_words_0 : decode cX9_words 0 = .ok (.aload_n 0, 1) := by decide +kernel
theorem dX9_words_1 : decode cX9_words 1 = .ok (.getfield 38, 3) := by decide +kernel
theorem dX9_words_4 : decode cX9_words 4 = .ok (.aload_n 0, 1) := by decide +kernel
theorem dX9_words_5 : decode cX9_words 5 = .ok (.getfield 144, 3) := by decide +kernel
theorem dX9_words_8 : decode cX9_words 8 = .ok (.caload, 1) := by decide +kernel
theorem dX9_words_9 : decode cX9_words 9 = .ok (.bipush 48, 2) := by decide +kernel
theorem dX9_words_11 : decode cX9_words 11 = .ok (.isub, 1) := by decide +kernel
theorem dX9_words_12 : decode cX9_words 12 = .ok (.istore_n 1, 1) := by decide +kernel
theorem dX9_words_13 : decode cX9_words 13 = .ok (.aload_n 0, 1) := by decide +kernel
theorem dX9_words_14 : decode cX9_words 14 = .ok (.dup, 1) := by decide +kernel
theorem dX9_words_15 : decode cX9_words 15 = .ok (.getfield 144, 3) := by decide +kernel
theorem dX9_words_18 : decode cX9_words 18 = .ok (.iconst 1, 1) := by decide +kernel
theorem dX9_words_19 : decode cX9_words 19 = .ok (.iadd, 1) := by decide +kernel
theorem dX9_words_20 : decode cX9_words 20 = .ok (.putfield 144, 3) := by decide +kernel
theorem dX9_words_23 : decode cX9_words 23 = .ok (.aload_n 0, 1) := by decide +kernel
theorem dX9_words_24 : decode cX9_words 24 = .ok (.bipush 58, 2) := by decide +kernel
theorem dX9_words_26 : decode cX9_words 26 = .ok (.invokevirtual 151, 3) := by decide +kernel
theorem dX9_words_29 : decode cX9_words 29 = .ok (.ifCond .eq 15, 3) := by decide +kernel
theorem dX9_words_32 : decode cX9_words 32 = .ok (.aload_n 0, 1) := by decide +kernel
theorem dX9_words_33 : decode cX9_words 33 = .ok (.iload_n 1, 1) := by decide +kernel
theorem dX9_words_34 : decode cX9_words 34 = .ok (.invokevirtual 162, 3) := by decide +kernel
theorem dX9_words_37 : decode cX9_words 37 = .ok (.ifCond .eq 7, 3) := by decide +kernel
theorem dX9_words_40 : decode cX9_words 40 = .ok (.iconst 1, 1) := by decide +kernel
theorem dX9_words_41 : decode cX9_words 41 = .ok (.goto 4, 3) := by decide +kernel
theorem dX9_words_44 : decode cX9_words 44 = .ok (.iconst 0, 1) := by decide +kernel
theorem dX9_words_45 : decode cX9_words 45 = .ok (.istore_n 2, 1) := by decide +kernel
theorem dX9_words_46 : decode cX9_words 46 = .ok (.iload_n 2, 1) := by decide +kernel
theorem dX9_words_47 : decode cX9_words 47 = .ok (.ifCond .eq 23, 3) := by decide +kernel
theorem dX9_words_50 : decode cX9_words 50 = .ok (.aload_n 0, 1) := by decide +kernel
theorem dX9_words_51 : decode cX9_words 51 = .ok (.bipush 65, 2) := by decide +kernel
theorem dX9_words_53 : decode cX9_words 53 = .ok (.bipush 68, 2) := by decide +kernel
theorem dX9_words_55 : decode cX9_words 55 = .ok (.invokevirtual 147, 3) := by decide +kernel
theorem dX9_words_58 : decode cX9_words 58 = .ok (.ifCond .eq 12, 3) := by decide +kernel
theorem dX9_words_61 : decode cX9_words 61 = .ok (.aload_n 0, 1) := by decide +kernel
theorem dX9_words_62 : decode cX9_words 62 = .ok (.iload_n 1, 1) := by decide +kernel
theorem dX9_words_63 : decode cX9_words 63 = .ok (.invokevirtual 162, 3) := by decide +kernel
theorem dX9_words_66 : decode cX9_words 66 = .ok (.istore_n 2, 1) := by decide +kernel
theorem dX9_words_67 : decode cX9_words 67 = .ok (.goto (-21), 3) := by decide +kernel
theorem dX9_words_70 : decode cX9_words 70 = .ok (.iload_n 2, 1) := by decide +kernel
theorem dX9_words_71 : decode cX9_words 71 = .ok (.ireturn, 1) := by decide +kernel
set_option maxRecDepth 20000 in
theorem ggX9_beats_X9_isSign : GoodIn wsX9_beats wsX9_isSign := goodIn_r _ [9, 2, 10, 1, 11, 12, 13, 14, 15, 16, 17, 18, 19, 20, 21, 22, 23, 24, 25] (by decide +kernel) (by decide +kernel)
set_option maxRecDepth 20000 in
theorem gX9_beats_X9_isSign : GoodIn wsX9_beats (wsV RX9 147 RX9 yX9_isSign wsX9_isSign) := goodIn_app (goodIn_of _ (by decide +kernel)) ggX9_beats_X9_isSign
theorem dX9_beats_0 : decode cX9_beats 0 = .ok (.aload_n 0, 1) := by decide +kernel
theorem dX9_beats_1 : decode cX9_beats 1 = .ok (.bipush 49, 2) := by decide +kernel
theorem dX9_beats_3 : decode cX9_beats 3 = .ok (.bipush 57, 2) := by decide +kernel
theorem dX9_beats_5 : decode cX9_beats 5 = .ok (.invokevirtual 147, 3) := by decide +kernel
theorem dX9_beats_8 : decode cX9_beats 8 = .ok (.ifCond .ne 5, 3) := by decide +kernel
theorem dX9_beats_11 : decode cX9_beats 11 = .ok (.iconst 0, 1) := by decide +kernel
theorem dX9_beats_12 : decode cX9_beats 12 = .ok (.ireturn, 1) := by decide +kernel
theorem dX9_beats_13 : decode cX9_beats 13 = .ok (.aload_n 0, 1) := by decide +kernel
theorem dX9_beats_14 : decode cX9_beats 14 = .ok (.getfield 38, 3) := by decide +kernel
theorem dX9_beats_17 : decode cX9_beats 17 = .ok (.aload_n 0, 1) := by decide +kernel
theorem dX9_beats_18 : decode cX9_beats 18 = .ok (.getfield 144, 3) := by decide +kernel
theorem dX9_beats_21 : decode cX9_beats 21 = .ok (.caload, 1) := by decide +kernel
theorem dX9_beats_22 : decode cX9_beats 22 = .ok (.bipush 48, 2) := by decide +kernel
theorem dX9_beats_24 : decode cX9_beats 24 = .ok (.isub, 1) := by decide +kernel
theorem dX9_beats_25 : decode cX9_beats 25 = .ok (.istore_n 1, 1) := by decide +kernel
theorem dX9_beats_26 : decode cX9_beats 26 = .ok (.aload_n 0, 1) := by decide +kernel
theorem dX9_beats_27 : decode cX9_beats 27 = .ok (.dup, 1) := by decide +kernel
theorem dX9_beats_28 : decode cX9_beats 28 = .ok (.getfield 144, 3) := by decide +kernel
theorem dX9_beats_31 : decode cX9_beats 31 = .ok (.iconst 1, 1) := by decide +kernel
theorem dX9_beats_32 : decode cX9_beats 32 = .ok (.iadd, 1) := by decide +kernel
theorem dX9_beats_33 : decode cX9_beats 33 = .ok (.putfield 144, 3) := by decide +kernel
theorem dX9_beats_36 : decode cX9_beats 36 = .ok (.aload_n 0, 1) := by decide +kernel
theorem dX9_beats_37 : decode cX9_beats 37 = .ok (.bipush 48, 2) := by decide +kernel
theorem dX9_beats_39 : decode cX9_beats 39 = .ok (.bipush 57, 2) := by decide +kernel
theorem dX9_beats_41 : decode cX9_beats 41 = .ok (.invokevirtual 147, 3) := by decide +kernel
theorem dX9_beats_44 : decode cX9_beats 44 = .ok (.ifCond .eq 31, 3) := by decide +kernel
theorem dX9_beats_47 : decode cX9_beats 47 = .ok (.bipush 10, 2) := by decide +kernel
theorem dX9_beats_49 : decode cX9_beats 49 = .ok (.iload_n 1, 1) := by decide +kernel
theorem dX9_beats_50 : decode cX9_beats 50 = .ok (.imul, 1) := by decide +kernel
theorem dX9_beats_51 : decode cX9_beats 51 = .ok (.aload_n 0, 1) := by decide +kernel
theorem dX9_beats_52 : decode cX9_beats 52 = .ok (.getfield 38, 3) := by decide +kernel
theorem dX9_beats_55 : decode cX9_beats 55 = .ok (.aload_n 0, 1) := by decide +kernel
theorem dX9_beats_56 : decode cX9_beats 56 = .ok (.getfield 144, 3) := by decide +kernel
theorem dX9_beats_59 : decode cX9_beats 59 = .ok (.caload, 1) := by decide +kernel
theorem dX9_beats_60 : decode cX9_beats 60 = .ok (.iadd, 1) := by decide +kernel
theorem dX9_beats_61 : decode cX9_beats 61 = .ok (.bipush 48, 2) := by decide +kernel
theorem dX9_beats_63 : decode cX9_beats 63 = .ok (.isub, 1) := by decide +kernel
theorem dX9_beats_64 : decode cX9_beats 64 = .ok (.istore_n 1, 1) := by decide +kernel
theorem dX9_beats_65 : decode cX9_beats 65 = .ok (.aload_n 0, 1) := by decide +kernel
theorem dX9_beats_66 : decode cX9_beats 66 = .ok (.dup, 1) := by decide +kernel
theorem dX9_beats_67 : decode cX9_beats 67 = .ok (.getfield 144, 3) := by decide +kernel
theorem dX9_beats_70 : decode cX9_beats 70 = .ok (.iconst 1, 1) := by decide +kernel
theorem dX9_beats_71 : decode cX9_beats 71 = .ok (.iadd, 1) := by decide +kernel
theorem dX9_beats_72 : decode cX9_beats 72 = .ok (.putfield 144, 3) := by decide +kernel
theorem dX9_beats_75 : decode cX9_beats 75 = .ok (.aload_n 0, 1) := by decide +kernel
theorem dX9_beats_76 : decode cX9_beats 76 = .ok (.getfield 35, 3) := by decide +kernel
theorem dX9_beats_79 : decode cX9_beats 79 = .ok (.iconst 2, 1) := by decide +kernel
theorem dX9_beats_80 : decode cX9_beats 80 = .ok (.aload_n 0, 1) := by decide +kernel
theorem dX9_beats_81 : decode cX9_beats 81 = .ok (.getfield 159, 3) := by decide +kernel
theorem dX9_beats_84 : decode cX9_beats 84 = .ok (.imul, 1) := by decide +kernel
theorem dX9_beats_85 : decode cX9_beats 85 = .ok (.bipush 9, 2) := by decide +kernel
theorem dX9_beats_87 : decode cX9_beats 87 = .ok (.iastore, 1) := by decide +kernel
theorem dX9_beats_88 : decode cX9_beats 88 = .ok (.aload_n 0, 1) := by decide +kernel
theorem dX9_beats_89 : decode cX9_beats 89 = .ok (.getfield 35, 3) := by decide +kernel
theorem dX9_beats_92 : decode cX9_beats 92 = .ok (.iconst 2, 1) := by decide +kernel
theorem dX9_beats_93 : decode cX9_beats 93 = .ok (.aload_n 0, 1) := by decide +kernel
theorem dX9_beats_94 : decode cX9_beats 94 = .ok (.getfield 159, 3) := by decide +kernel
theorem dX9_beats_97 : decode cX9_beats 97 = .ok (.imul, 1) := by decide +kernel
theorem dX9_beats_98 : decode cX9_beats 98 = .ok (.iconst 1, 1) := by decide +kernel
theorem dX9_beats_99 : decode cX9_beats 99 = .ok (.iadd, 1) := by decide +kernel
theorem dX9_beats_100 : decode cX9_beats 100 = .ok (.iload_n 1, 1) := by decide +kernel
theorem dX9_beats_101 : decode cX9_beats 101 = .ok (.iastore, 1) := by decide +kernel
theorem dX9_beats_102 : decode cX9_beats 102 = .ok (.aload_n 0, 1) := by decide +kernel
theorem dX9_beats_103 : decode cX9_beats 103 = .ok (.dup, 1) := by decide +kernel
theorem dX9_beats_104 : decode cX9_beats 104 = .ok (.getfield 159, 3) := by decide +kernel
theorem dX9_beats_107 : decode cX9_beats 107 = .ok (.iconst 1, 1) := by decide +kernel
theorem dX9_beats_108 : decode cX9_beats 108 = .ok (.iadd, 1) := by decide +kernel
theorem dX9_beats_109 : decode cX9_beats 109 = .ok (.putfield 159, 3) := by decide +kernel
theorem dX9_beats_112 : decode cX9_beats 112 = .ok (.iconst 1, 1) := by decide +kernel
theorem dX9_beats_113 : decode cX9_beats 113 = .ok (.ireturn, 1) := by decide +kernel
set_option maxRecDepth 20000 in
theorem ggX9_part_X9_isSign : GoodIn wsX9_part wsX9_isSign := goodIn_r _ [5, 6, 7, 8, 31, 32, 33, 34, 35, 36, 37, 38, 39, 40, 41, 42, 43, 44, 45] (by decide +kernel) (by decide +kernel)
set_option maxRecDepth 20000 in
theorem gX9_part_X9_isSign : GoodIn wsX9_part (wsV RX9 147 RX9 yX9_isSign wsX9_isSign) := goodIn_app (goodIn_of _ (by decide +kernel)) ggX9_part_X9_isSign
set_option maxRecDepth 20000 in
theorem ggX9_part_X9_words : GoodIn wsX9_part wsX9_words := goodIn_r _ [12, 8, 6, 13, 14, 15, 4, 16, 1, 2, 3, 5, 7, 17, 18, 19, 20, 21, 22, 23, 24, 25, 26, 31, 32, 33, 34, 35, 36, 37, 38, 39, 40, 41, 42, 43, 44, 45] (by decide +kernel) (by decide +kernel)
set_option maxRecDepth 20000 in
theorem gX9_part_X9_words : GoodIn wsX9_part (wsV RX9 165 RX9 yX9_words wsX9_words) := goodIn_app (goodIn_of _ (by decide +kernel)) ggX9_part_X9_words
set_option maxRecDepth 20000 in
theorem ggX9_part_X9_accepts : GoodIn wsX9_part wsX9_accepts := goodIn_r _ [16, 6, 1, 2, 3, 4, 5, 7, 8, 31, 32, 33, 34, 35, 36, 37, 38, 39, 40, 41, 42, 43, 44, 45] (by decide +kernel) (by decide +kernel)
set_option maxRecDepth 20000 in
theorem gX9_part_X9_accepts : GoodIn wsX9_part (wsV RX9 151 RX9 yX9_accepts wsX9_accepts) := goodIn_app (goodIn_of _ (by decide +kernel)) ggX9_part_X9_accepts
set_option maxRecDepth 20000 in
theorem ggX9_part_X9_beats : GoodIn wsX9_part wsX9_beats := goodIn_r _ [30, 8, 6, 21, 22, 1, 2, 3, 4, 5, 7, 31, 32, 33, 34, 35, 36, 37, 38, 39, 40, 41, 42, 43, 44, 45] (by decide +kernel) (by decide +kernel)
set_option maxRecDepth 20000 in
theorem gX9_part_X9_beats : GoodIn wsX9_part (wsV RX9 169 RX9 yX9_beats wsX9_beats) := goodIn_app (goodIn_of _ (by decide +kernel)) ggX9_part_X9_beats
theorem dX9_part_0 : decode cX9_part 0 = .ok (.aload_n 0, 1) := by decide +kernel
theorem dX9_part_1 : decode cX9_part 1 = .ok (.bipush 48, 2) := by decide +kernel
theorem dX9_part_3 : decode cX9_part 3 = .ok (.bipush 52, 2) := by decide +kernel
theorem dX9_part_5 : decode cX9_part 5 = .ok (.invokevirtual 147, 3) := by decide +kernel
theorem dX9_part_8 : decode cX9_part 8 = .ok (.ifCond .eq 8, 3) := by decide +kernel
theorem dX9_part_11 : decode cX9_part 11 = .ok (.aload_n 0, 1) := by decide +kernel
theorem dX9_part_12 : decode cX9_part 12 = .ok (.invokevirtual 165, 3) := by decide +kernel
theorem dX9_part_15 : decode cX9_part 15 = .ok (.ireturn, 1) := by decide +kernel
theorem dX9_part_16 : decode cX9_part 16 = .ok (.aload_n 0, 1) := by decide +kernel
theorem dX9_part_17 : decode cX9_part 17 = .ok (.bipush 116, 2) := by decide +kernel
theorem dX9_part_19 : decode cX9_part 19 = .ok (.invokevirtual 151, 3) := by decide +kernel
theorem dX9_part_22 : decode cX9_part 22 = .ok (.ifCond .eq 14, 3) := by decide +kernel
theorem dX9_part_25 : decode cX9_part 25 = .ok (.aload_n 0, 1) := by decide +kernel
theorem dX9_part_26 : decode cX9_part 26 = .ok (.invokevirtual 169, 3) := by decide +kernel
theorem dX9_part_29 : decode cX9_part 29 = .ok (.ifCond .eq 7, 3) := by decide +kernel
theorem dX9_part_32 : decode cX9_part 32 = .ok (.iconst 1, 1) := by decide +kernel
theorem dX9_part_33 : decode cX9_part 33 = .ok (.goto 4, 3) := by decide +kernel
theorem dX9_part_36 : decode cX9_part 36 = .ok (.iconst 0, 1) := by decide +kernel
theorem dX9_part_37 : decode cX9_part 37 = .ok (.ireturn, 1) := by decide +kernel
set_option maxRecDepth 20000 in
theorem ggX9_faultOf_X9_part : GoodIn wsX9_faultOf wsX9_part := goodIn_r _ [8, 9, 10, 11, 7, 12, 1, 3, 13, 14, 15, 16, 17, 18, 19, 20, 21, 22, 23, 24, 25, 26, 2, 27, 28, 29, 30, 31, 32, 33, 34, 35, 36, 37, 38, 39, 40, 41, 42, 43, 44, 45, 46, 47, 48, 49] (by decide +kernel) (by decide +kernel)
set_option maxRecDepth 20000 in
theorem gX9_faultOf_X9_part : GoodIn wsX9_faultOf (wsV RX9 172 RX9 yX9_part wsX9_part) := goodIn_app (goodIn_of _ (by decide +kernel)) ggX9_faultOf_X9_part
set_option maxRecDepth 20000 in
theorem ggX9_faultOf_X9_accepts : GoodIn wsX9_faultOf wsX9_accepts := goodIn_r _ [21, 1, 9, 10, 11, 7, 12, 3, 13, 35, 36, 37, 38, 39, 40, 41, 42, 43, 44, 45, 46, 47, 48, 49] (by decide +kernel) (by decide +kernel)
set_option maxRecDepth 20000 in
theorem gX9_faultOf_X9_accepts : GoodIn wsX9_faultOf (wsV RX9 151 RX9 yX9_accepts wsX9_accepts) := goodIn_app (goodIn_of _ (by decide +kernel)) ggX9_faultOf_X9_accepts
theorem dX9_faultOf_0 : decode cX9_faultOf 0 = .ok (.aload_n 0, 1) := by decide +kernel
theorem dX9_faultOf_1 : decode cX9_faultOf 1 = .ok (.iconst 0, 1) := by decide +kernel
theorem dX9_faultOf_2 : decode cX9_faultOf 2 = .ok (.putfield 144, 3) := by decide +kernel
theorem dX9_faultOf_5 : decode cX9_faultOf 5 = .ok (.aload_n 0, 1) := by decide +kernel
theorem dX9_faultOf_6 : decode cX9_faultOf 6 = .ok (.iconst 0, 1) := by decide +kernel
theorem dX9_faultOf_7 : decode cX9_faultOf 7 = .ok (.putfield 159, 3) := by decide +kernel
theorem dX9_faultOf_10 : decode cX9_faultOf 10 = .ok (.aload_n 0, 1) := by decide +kernel
theorem dX9_faultOf_11 : decode cX9_faultOf 11 = .ok (.invokevirtual 172, 3) := by decide +kernel
theorem dX9_faultOf_14 : decode cX9_faultOf 14 = .ok (.istore_n 1, 1) := by decide +kernel
theorem dX9_faultOf_15 : decode cX9_faultOf 15 = .ok (.iload_n 1, 1) := by decide +kernel
theorem dX9_faultOf_16 : decode cX9_faultOf 16 = .ok (.ifCond .eq 39, 3) := by decide +kernel
theorem dX9_faultOf_19 : decode cX9_faultOf 19 = .ok (.aload_n 0, 1) := by decide +kernel
theorem dX9_faultOf_20 : decode cX9_faultOf 20 = .ok (.getfield 144, 3) := by decide +kernel
theorem dX9_faultOf_23 : decode cX9_faultOf 23 = .ok (.aload_n 0, 1) := by decide +kernel
theorem dX9_faultOf_24 : decode cX9_faultOf 24 = .ok (.getfield 141, 3) := by decide +kernel
theorem dX9_faultOf_27 : decode cX9_faultOf 27 = .ok (.if_icmp .ge 28, 3) := by decide +kernel
theorem dX9_faultOf_30 : decode cX9_faultOf 30 = .ok (.aload_n 0, 1) := by decide +kernel
theorem dX9_faultOf_31 : decode cX9_faultOf 31 = .ok (.bipush 44, 2) := by decide +kernel
theorem dX9_faultOf_33 : decode cX9_faultOf 33 = .ok (.invokevirtual 151, 3) := by decide +kernel
theorem dX9_faultOf_36 : decode cX9_faultOf 36 = .ok (.ifCond .eq 14, 3) := by decide +kernel
theorem dX9_faultOf_39 : decode cX9_faultOf 39 = .ok (.aload_n 0, 1) := by decide +kernel
theorem dX9_faultOf_40 : decode cX9_faultOf 40 = .ok (.invokevirtual 172, 3) := by decide +kernel
theorem dX9_faultOf_43 : decode cX9_faultOf 43 = .ok (.ifCond .eq 7, 3) := by decide +kernel
theorem dX9_faultOf_46 : decode cX9_faultOf 46 = .ok (.iconst 1, 1) := by decide +kernel
theorem dX9_faultOf_47 : decode cX9_faultOf 47 = .ok (.goto 4, 3) := by decide +kernel
theorem dX9_faultOf_50 : decode cX9_faultOf 50 = .ok (.iconst 0, 1) := by decide +kernel
theorem dX9_faultOf_51 : decode cX9_faultOf 51 = .ok (.istore_n 1, 1) := by decide +kernel
theorem dX9_faultOf_52 : decode cX9_faultOf 52 = .ok (.goto (-37), 3) := by decide +kernel
theorem dX9_faultOf_55 : decode cX9_faultOf 55 = .ok (.iload_n 1, 1) := by decide +kernel
theorem dX9_faultOf_56 : decode cX9_faultOf 56 = .ok (.ifCond .eq 7, 3) := by decide +kernel
theorem dX9_faultOf_59 : decode cX9_faultOf 59 = .ok (.iconst (-1), 1) := by decide +kernel
theorem dX9_faultOf_60 : decode cX9_faultOf 60 = .ok (.goto 7, 3) := by decide +kernel
theorem dX9_faultOf_63 : decode cX9_faultOf 63 = .ok (.aload_n 0, 1) := by decide +kernel
theorem dX9_faultOf_64 : decode cX9_faultOf 64 = .ok (.getfield 144, 3) := by decide +kernel
theorem dX9_faultOf_67 : decode cX9_faultOf 67 = .ok (.ireturn, 1) := by decide +kernel
set_option maxRecDepth 20000 in
theorem ggX9_fault_X9_faultOf : GoodIn wsX9_fault wsX9_faultOf := goodIn_r _ [5, 6, 7, 8, 9, 10, 11, 4, 12, 13, 14, 15, 16, 17, 18, 19, 20, 21, 22, 23, 24, 25, 26, 27, 28, 29, 30, 31, 32, 33, 34, 35, 36, 37, 38, 39, 40, 41, 42, 43, 44, 45, 46, 47, 48, 49, 50, 51, 52, 53] (by decide +kernel) (by decide +kernel)
set_option maxRecDepth 20000 in
theorem gX9_fault_X9_faultOf : GoodIn wsX9_fault (wsV RX9 175 RX9 yX9_faultOf wsX9_faultOf) := goodIn_app (goodIn_of _ (by decide +kernel)) ggX9_fault_X9_faultOf
theorem dX9_fault_0 : decode cX9_fault 0 = .ok (.aload_n 0, 1) := by decide +kernel
theorem dX9_fault_1 : decode cX9_fault 1 = .ok (.invokevirtual 175, 3) := by decide +kernel
theorem dX9_fault_4 : decode cX9_fault 4 = .ok (.istore_n 1, 1) := by decide +kernel
theorem dX9_fault_5 : decode cX9_fault 5 = .ok (.iload_n 1, 1) := by decide +kernel
theorem dX9_fault_6 : decode cX9_fault 6 = .ok (.ifCond .ge 8, 3) := by decide +kernel
theorem dX9_fault_9 : decode cX9_fault 9 = .ok (.bipush (-5), 2) := by decide +kernel
theorem dX9_fault_11 : decode cX9_fault 11 = .ok (.goto 4, 3) := by decide +kernel
theorem dX9_fault_14 : decode cX9_fault 14 = .ok (.iload_n 1, 1) := by decide +kernel
theorem dX9_fault_15 : decode cX9_fault 15 = .ok (.ireturn, 1) := by decide +kernel
set_option maxRecDepth 20000 in
theorem ggX9_perform_X9_faultOf : GoodIn wsX9_perform wsX9_faultOf := goodIn_r _ [7, 8, 1, 9, 10, 11, 12, 6, 13, 14, 15, 16, 17, 18, 19, 20, 21, 22, 23, 24, 25, 26, 27, 28, 29, 30, 2, 31, 32, 33, 34, 35, 36, 37, 38, 144, 145, 146, 147, 148, 149, 150, 151, 152, 153, 154, 155, 156, 157, 158] (by decide +kernel) (by decide +kernel)
set_option maxRecDepth 20000 in
theorem gX9_perform_X9_faultOf : GoodIn wsX9_perform (wsV RX9 175 RX9 yX9_faultOf wsX9_faultOf) := goodIn_app (goodIn_of _ (by decide +kernel)) ggX9_perform_X9_faultOf
set_option maxRecDepth 20000 in
theorem ggX9_perform_X9_hold : GoodIn wsX9_perform wsX9_hold := goodIn_r _ [42, 43, 44, 144, 145, 146, 147, 148, 149, 150, 151, 152, 153, 154, 155, 156, 157, 158] (by decide +kernel) (by decide +kernel)
set_option maxRecDepth 20000 in
theorem gX9_perform_X9_hold : GoodIn wsX9_perform (wsV RX9 125 RX9 yX9_hold wsX9_hold) := goodIn_app (goodIn_of _ (by decide +kernel)) ggX9_perform_X9_hold
set_option maxRecDepth 20000 in
theorem ggX9_perform_X9_passes : GoodIn wsX9_perform wsX9_passes := goodIn_r _ [48, 44, 49, 50, 6, 51, 52, 53, 54, 55, 56, 57, 58, 59, 60, 61, 62, 63, 64, 65, 66, 67, 68, 69, 70, 71, 72, 73, 74, 75, 76, 77, 78, 79, 80, 81, 82, 83, 84, 85, 86, 87, 88, 89, 90, 91, 92, 93, 94, 95, 96, 97, 98, 99, 100, 101, 102, 103, 104, 105, 106, 107, 108, 109, 110, 111, 112, 113, 114, 115, 116, 117, 118, 119, 120, 121, 122, 123, 124, 125, 126, 127, 128, 129, 130, 131, 132, 133, 144, 145, 146, 147, 148, 149, 150, 151, 152, 153, 154, 155, 156, 157, 158] (by decide +kernel) (by decide +kernel)
set_option maxRecDepth 20000 in
theorem gX9_perform_X9_passes : GoodIn wsX9_perform (wsV RX9 138 RX9 yX9_passes wsX9_passes) := goodIn_app (goodIn_of _ (by decide +kernel)) ggX9_perform_X9_passes
set_option maxRecDepth 20000 in
theorem ggX9_perform_X9_says : GoodIn wsX9_perform wsX9_says := goodIn_r _ [137, 44, 67, 68, 69, 6, 70, 49, 50, 51, 61, 62, 63, 144, 145, 146, 147, 148, 149, 150, 151, 152, 153, 154, 155, 156, 157, 158] (by decide +kernel) (by decide +kernel)
set_option maxRecDepth 20000 in
theorem gX9_perform_X9_says : GoodIn wsX9_perform (wsV RX9 135 RX9 yX9_says wsX9_says) := goodIn_app (goodIn_of _ (by decide +kernel)) ggX9_perform_X9_says
set_option maxRecDepth 20000 in
theorem ggX9_perform_X9_recorded : GoodIn wsX9_perform wsX9_recorded := goodIn_r _ [141, 142, 143, 43, 144, 145, 146, 147, 148, 149, 150, 151, 152, 153, 154, 155, 156, 157, 158] (by decide +kernel) (by decide +kernel)
set_option maxRecDepth 20000 in
theorem gX9_perform_X9_recorded : GoodIn wsX9_perform (wsV RX9 132 RX9 yX9_recorded wsX9_recorded) := goodIn_app (goodIn_of _ (by decide +kernel)) ggX9_perform_X9_recorded
theorem dX9_perform_0 : decode cX9_perform 0 = .ok (.aload_n 0, 1) := by decide +kernel
theorem dX9_perform_1 : decode cX9_perform 1 = .ok (.invokevirtual 175, 3) := by decide +kernel
theorem dX9_perform_4 : decode cX9_perform 4 = .ok (.istore_n 1, 1) := by decide +kernel
theorem dX9_perform_5 : decode cX9_perform 5 = .ok (.iload_n 1, 1) := by decide +kernel
theorem dX9_perform_6 : decode cX9_perform 6 = .ok (.ifCond .lt 8, 3) := by decide +kernel
theorem dX9_perform_9 : decode cX9_perform 9 = .ok (.bipush (-100), 2) := by decide +kernel
theorem dX9_perform_11 : decode cX9_perform 11 = .ok (.iload_n 1, 1) := by decide +kernel
theorem dX9_perform_12 : decode cX9_perform 12 = .ok (.isub, 1) := by decide +kernel
theorem dX9_perform_13 : decode cX9_perform 13 = .ok (.ireturn, 1) := by decide +kernel
theorem dX9_perform_14 : decode cX9_perform 14 = .ok (.aload_n 0, 1) := by decide +kernel
theorem dX9_perform_15 : decode cX9_perform 15 = .ok (.invokevirtual 125, 3) := by decide +kernel
theorem dX9_perform_18 : decode cX9_perform 18 = .ok (.iconst 0, 1) := by decide +kernel
theorem dX9_perform_19 : decode cX9_perform 19 = .ok (.istore_n 2, 1) := by decide +kernel
theorem dX9_perform_20 : decode cX9_perform 20 = .ok (.iconst 1, 1) := by decide +kernel
theorem dX9_perform_21 : decode cX9_perform 21 = .ok (.istore_n 3, 1) := by decide +kernel
theorem dX9_perform_22 : decode cX9_perform 22 = .ok (.iload_n 3, 1) := by decide +kernel
theorem dX9_perform_23 : decode cX9_perform 23 = .ok (.ifCond .eq 91, 3) := by decide +kernel
theorem dX9_perform_26 : decode cX9_perform 26 = .ok (.iload_n 2, 1) := by decide +kernel
theorem dX9_perform_27 : decode cX9_perform 27 = .ok (.aload_n 0, 1) := by decide +kernel
theorem dX9_perform_28 : decode cX9_perform 28 = .ok (.getfield 159, 3) := by decide +kernel
theorem dX9_perform_31 : decode cX9_perform 31 = .ok (.if_icmp .ge 83, 3) := by decide +kernel
theorem dX9_perform_34 : decode cX9_perform 34 = .ok (.aload_n 0, 1) := by decide +kernel
theorem dX9_perform_35 : decode cX9_perform 35 = .ok (.getfield 35, 3) := by decide +kernel
theorem dX9_perform_38 : decode cX9_perform 38 = .ok (.iconst 2, 1) := by decide +kernel
theorem dX9_perform_39 : decode cX9_perform 39 = .ok (.iload_n 2, 1) := by decide +kernel
theorem dX9_perform_40 : decode cX9_perform 40 = .ok (.imul, 1) := by decide +kernel
theorem dX9_perform_41 : decode cX9_perform 41 = .ok (.iaload, 1) := by decide +kernel
theorem dX9_perform_42 : decode cX9_perform 42 = .ok (.bipush 9, 2) := by decide +kernel
theorem dX9_perform_44 : decode cX9_perform 44 = .ok (.if_icmp .ne 20, 3) := by decide +kernel
theorem dX9_perform_47 : decode cX9_perform 47 = .ok (.aload_n 0, 1) := by decide +kernel
theorem dX9_perform_48 : decode cX9_perform 48 = .ok (.aload_n 0, 1) := by decide +kernel
