theorem dX8_lampOf_57 : decode cX8_lampOf 57 = .ok (.aload_n 3, 1) := by decide +kernel
theorem dX8_lampOf_58 : decode cX8_lampOf 58 = .ok (.getfield 209, 3) := by decide +kernel
theorem dX8_lampOf_61 : decode cX8_lampOf 61 = .ok (.ireturn, 1) := by decide +kernel
theorem dX8_lampOf_62 : decode cX8_lampOf 62 = .ok (.aload_n 3, 1) := by decide +kernel
theorem dX8_lampOf_63 : decode cX8_lampOf 63 = .ok (.getfield 212, 3) := by decide +kernel
theorem dX8_lampOf_66 : decode cX8_lampOf 66 = .ok (.ireturn, 1) := by decide +kernel
theorem dX8_lampOf_67 : decode cX8_lampOf 67 = .ok (.aload_n 3, 1) := by decide +kernel
theorem dX8_lampOf_68 : decode cX8_lampOf 68 = .ok (.getfield 215, 3) := by decide +kernel
theorem dX8_lampOf_71 : decode cX8_lampOf 71 = .ok (.ireturn, 1) := by decide +kernel
theorem dX8_lampOf_72 : decode cX8_lampOf 72 = .ok (.aload_n 3, 1) := by decide +kernel
theorem dX8_lampOf_73 : decode cX8_lampOf 73 = .ok (.getfield 218, 3) := by decide +kernel
theorem dX8_lampOf_76 : decode cX8_lampOf 76 = .ok (.invokestatic 110, 3) := by decide +kernel
theorem dX8_lampOf_79 : decode cX8_lampOf 79 = .ok (.ireturn, 1) := by decide +kernel
theorem dX8_lampOf_80 : decode cX8_lampOf 80 = .ok (.bipush (-2), 2) := by decide +kernel
theorem dX8_lampOf_82 : decode cX8_lampOf 82 = .ok (.ireturn, 1) := by decide +kernel
set_option maxRecDepth 20000 in
theorem ggX8_receiver_X8_isWire : GoodIn wsX8_receiver wsX8_isWire := goodIn_r _ [13] (by decide +kernel) (by decide +kernel)
set_option maxRecDepth 20000 in
theorem gX8_receiver_X8_isWire : GoodIn wsX8_receiver (va_wsS RX8 40 yX8_isWire wsX8_isWire) := goodIn_app (goodIn_of _ (by decide +kernel)) ggX8_receiver_X8_isWire
theorem dX8_receiver_0 : decode cX8_receiver 0 = .ok (.iload_n 1, 1) := by decide +kernel
theorem dX8_receiver_1 : decode cX8_receiver 1 = .ok (.invokestatic 40, 3) := by decide +kernel
theorem dX8_receiver_4 : decode cX8_receiver 4 = .ok (.ifCond .ne 5, 3) := by decide +kernel
theorem dX8_receiver_7 : decode cX8_receiver 7 = .ok (.iconst (-1), 1) := by decide +kernel
theorem dX8_receiver_8 : decode cX8_receiver 8 = .ok (.ireturn, 1) := by decide +kernel
theorem dX8_receiver_9 : decode cX8_receiver 9 = .ok (.aload_n 0, 1) := by decide +kernel
theorem dX8_receiver_10 : decode cX8_receiver 10 = .ok (.getfield 10, 3) := by decide +kernel
theorem dX8_receiver_13 : decode cX8_receiver 13 = .ok (.getfield 221, 3) := by decide +kernel
theorem dX8_receiver_16 : decode cX8_receiver 16 = .ok (.iload_n 1, 1) := by decide +kernel
theorem dX8_receiver_17 : decode cX8_receiver 17 = .ok (.aaload, 1) := by decide +kernel
theorem dX8_receiver_18 : decode cX8_receiver 18 = .ok (.astore_n 3, 1) := by decide +kernel
theorem dX8_receiver_19 : decode cX8_receiver 19 = .ok (.iload_n 2, 1) := by decide +kernel
theorem dX8_receiver_20 : decode cX8_receiver 20 = .ok (.tableswitch 107 0 4 #[36, 53, 70, 75, 102], 36) := by decide +kernel
theorem dX8_receiver_56 : decode cX8_receiver 56 = .ok (.aload_n 3, 1) := by decide +kernel
theorem dX8_receiver_57 : decode cX8_receiver 57 = .ok (.getfield 225, 3) := by decide +kernel
theorem dX8_receiver_60 : decode cX8_receiver 60 = .ok (.ifCond .eq 10, 3) := by decide +kernel
theorem dX8_receiver_63 : decode cX8_receiver 63 = .ok (.aload_n 3, 1) := by decide +kernel
theorem dX8_receiver_64 : decode cX8_receiver 64 = .ok (.getfield 230, 3) := by decide +kernel
theorem dX8_receiver_67 : decode cX8_receiver 67 = .ok (.goto 5, 3) := by decide +kernel
theorem dX8_receiver_70 : decode cX8_receiver 70 = .ok (.bipush (-5), 2) := by decide +kernel
theorem dX8_receiver_72 : decode cX8_receiver 72 = .ok (.ireturn, 1) := by decide +kernel
theorem dX8_receiver_73 : decode cX8_receiver 73 = .ok (.aload_n 3, 1) := by decide +kernel
theorem dX8_receiver_74 : decode cX8_receiver 74 = .ok (.getfield 225, 3) := by decide +kernel
theorem dX8_receiver_77 : decode cX8_receiver 77 = .ok (.ifCond .eq 8, 3) := by decide +kernel
theorem dX8_receiver_80 : decode cX8_receiver 80 = .ok (.bipush (-5), 2) := by decide +kernel
theorem dX8_receiver_82 : decode cX8_receiver 82 = .ok (.goto 7, 3) := by decide +kernel
theorem dX8_receiver_85 : decode cX8_receiver 85 = .ok (.aload_n 3, 1) := by decide +kernel
theorem dX8_receiver_86 : decode cX8_receiver 86 = .ok (.getfield 233, 3) := by decide +kernel
theorem dX8_receiver_89 : decode cX8_receiver 89 = .ok (.ireturn, 1) := by decide +kernel
theorem dX8_receiver_90 : decode cX8_receiver 90 = .ok (.aload_n 3, 1) := by decide +kernel
theorem dX8_receiver_91 : decode cX8_receiver 91 = .ok (.getfield 236, 3) := by decide +kernel
theorem dX8_receiver_94 : decode cX8_receiver 94 = .ok (.ireturn, 1) := by decide +kernel
theorem dX8_receiver_95 : decode cX8_receiver 95 = .ok (.aload_n 3, 1) := by decide +kernel
theorem dX8_receiver_96 : decode cX8_receiver 96 = .ok (.getfield 236, 3) := by decide +kernel
theorem dX8_receiver_99 : decode cX8_receiver 99 = .ok (.bipush (-5), 2) := by decide +kernel
theorem dX8_receiver_101 : decode cX8_receiver 101 = .ok (.if_icmp .ne 8, 3) := by decide +kernel
theorem dX8_receiver_104 : decode cX8_receiver 104 = .ok (.bipush (-5), 2) := by decide +kernel
theorem dX8_receiver_106 : decode cX8_receiver 106 = .ok (.goto 15, 3) := by decide +kernel
theorem dX8_receiver_109 : decode cX8_receiver 109 = .ok (.aload_n 0, 1) := by decide +kernel
theorem dX8_receiver_110 : decode cX8_receiver 110 = .ok (.getfield 10, 3) := by decide +kernel
theorem dX8_receiver_113 : decode cX8_receiver 113 = .ok (.getfield 167, 3) := by decide +kernel
theorem dX8_receiver_116 : decode cX8_receiver 116 = .ok (.aload_n 3, 1) := by decide +kernel
theorem dX8_receiver_117 : decode cX8_receiver 117 = .ok (.getfield 239, 3) := by decide +kernel
theorem dX8_receiver_120 : decode cX8_receiver 120 = .ok (.isub, 1) := by decide +kernel
theorem dX8_receiver_121 : decode cX8_receiver 121 = .ok (.ireturn, 1) := by decide +kernel
theorem dX8_receiver_122 : decode cX8_receiver 122 = .ok (.aload_n 3, 1) := by decide +kernel
theorem dX8_receiver_123 : decode cX8_receiver 123 = .ok (.getfield 242, 3) := by decide +kernel
theorem dX8_receiver_126 : decode cX8_receiver 126 = .ok (.ireturn, 1) := by decide +kernel
theorem dX8_receiver_127 : decode cX8_receiver 127 = .ok (.bipush (-2), 2) := by decide +kernel
theorem dX8_receiver_129 : decode cX8_receiver 129 = .ok (.ireturn, 1) := by decide +kernel
set_option maxRecDepth 20000 in
theorem ggX8_frame_X8_isWord : GoodIn wsX8_frame wsX8_isWord := goodIn_r _ [4] (by decide +kernel) (by decide +kernel)
set_option maxRecDepth 20000 in
theorem gX8_frame_X8_isWord : GoodIn wsX8_frame (va_wsS RX8 245 yX8_isWord wsX8_isWord) := goodIn_app (goodIn_of _ (by decide +kernel)) ggX8_frame_X8_isWord
set_option maxRecDepth 20000 in
theorem ggX8_frame_X8_frameBit : GoodIn wsX8_frame wsX8_frameBit := goodIn_r _ [7] (by decide +kernel) (by decide +kernel)
set_option maxRecDepth 20000 in
theorem gX8_frame_X8_frameBit : GoodIn wsX8_frame (va_wsS RX8 248 yX8_frameBit wsX8_frameBit) := goodIn_app (goodIn_of _ (by decide +kernel)) ggX8_frame_X8_frameBit
theorem dX8_frame_0 : decode cX8_frame 0 = .ok (.iload_n 1, 1) := by decide +kernel
theorem dX8_frame_1 : decode cX8_frame 1 = .ok (.invokestatic 245, 3) := by decide +kernel
theorem dX8_frame_4 : decode cX8_frame 4 = .ok (.ifCond .eq 13, 3) := by decide +kernel
theorem dX8_frame_7 : decode cX8_frame 7 = .ok (.iload_n 2, 1) := by decide +kernel
theorem dX8_frame_8 : decode cX8_frame 8 = .ok (.ifCond .lt 9, 3) := by decide +kernel
theorem dX8_frame_11 : decode cX8_frame 11 = .ok (.iload_n 2, 1) := by decide +kernel
theorem dX8_frame_12 : decode cX8_frame 12 = .ok (.bipush 14, 2) := by decide +kernel
theorem dX8_frame_14 : decode cX8_frame 14 = .ok (.if_icmp .lt 6, 3) := by decide +kernel
theorem dX8_frame_17 : decode cX8_frame 17 = .ok (.bipush (-2), 2) := by decide +kernel
theorem dX8_frame_19 : decode cX8_frame 19 = .ok (.ireturn, 1) := by decide +kernel
theorem dX8_frame_20 : decode cX8_frame 20 = .ok (.iload_n 1, 1) := by decide +kernel
theorem dX8_frame_21 : decode cX8_frame 21 = .ok (.iload_n 2, 1) := by decide +kernel
theorem dX8_frame_22 : decode cX8_frame 22 = .ok (.invokestatic 248, 3) := by decide +kernel
theorem dX8_frame_25 : decode cX8_frame 25 = .ok (.ireturn, 1) := by decide +kernel
set_option maxRecDepth 20000 in
theorem ggX8_loss_X8_isWire : GoodIn wsX8_loss wsX8_isWire := goodIn_r _ [5] (by decide +kernel) (by decide +kernel)
set_option maxRecDepth 20000 in
theorem gX8_loss_X8_isWire : GoodIn wsX8_loss (va_wsS RX8 40 yX8_isWire wsX8_isWire) := goodIn_app (goodIn_of _ (by decide +kernel)) ggX8_loss_X8_isWire
set_option maxRecDepth 20000 in
theorem ggX8_loss_X3_lossBetween : GoodIn wsX8_loss wsX3_lossBetween := goodIn_r _ [10, 11, 18, 19, 20, 21, 22, 23, 24, 25] (by decide +kernel) (by decide +kernel)
set_option maxRecDepth 20000 in
theorem gX8_loss_X3_lossBetween : GoodIn wsX8_loss (wsV RX8 251 RX3 yX3_lossBetween wsX3_lossBetween) := goodIn_app (goodIn_of _ (by decide +kernel)) ggX8_loss_X3_lossBetween
theorem dX8_loss_0 : decode cX8_loss 0 = .ok (.iload_n 1, 1) := by decide +kernel
theorem dX8_loss_1 : decode cX8_loss 1 = .ok (.invokestatic 40, 3) := by decide +kernel
theorem dX8_loss_4 : decode cX8_loss 4 = .ok (.ifCond .eq 10, 3) := by decide +kernel
theorem dX8_loss_7 : decode cX8_loss 7 = .ok (.iload_n 2, 1) := by decide +kernel
theorem dX8_loss_8 : decode cX8_loss 8 = .ok (.invokestatic 40, 3) := by decide +kernel
theorem dX8_loss_11 : decode cX8_loss 11 = .ok (.ifCond .ne 5, 3) := by decide +kernel
theorem dX8_loss_14 : decode cX8_loss 14 = .ok (.iconst (-1), 1) := by decide +kernel
theorem dX8_loss_15 : decode cX8_loss 15 = .ok (.ireturn, 1) := by decide +kernel
theorem dX8_loss_16 : decode cX8_loss 16 = .ok (.aload_n 0, 1) := by decide +kernel
theorem dX8_loss_17 : decode cX8_loss 17 = .ok (.getfield 10, 3) := by decide +kernel
theorem dX8_loss_20 : decode cX8_loss 20 = .ok (.iload_n 1, 1) := by decide +kernel
theorem dX8_loss_21 : decode cX8_loss 21 = .ok (.iload_n 2, 1) := by decide +kernel
theorem dX8_loss_22 : decode cX8_loss 22 = .ok (.invokevirtual 251, 3) := by decide +kernel
theorem dX8_loss_25 : decode cX8_loss 25 = .ok (.ireturn, 1) := by decide +kernel
set_option maxRecDepth 20000 in
theorem ggX8_count_X8_presentIn : GoodIn wsX8_count wsX8_presentIn := goodIn_r _ [14, 15, 16, 17, 13, 18, 65, 66, 67, 68, 69, 70, 71, 72, 73, 74, 75, 76, 77, 78, 79, 80, 81, 82, 83, 84, 85, 86, 87] (by decide +kernel) (by decide +kernel)
set_option maxRecDepth 20000 in
theorem gX8_count_X8_presentIn : GoodIn wsX8_count (va_wsS RX8 258 yX8_presentIn wsX8_presentIn) := goodIn_app (goodIn_of _ (by decide +kernel)) ggX8_count_X8_presentIn
set_option maxRecDepth 20000 in
theorem ggX8_count_X3_speakingSenders : GoodIn wsX8_count wsX3_speakingSenders := goodIn_r _ [23, 24, 25, 26, 27, 28, 29, 30, 31, 32, 17, 13, 18, 53, 54, 55, 56, 57, 58, 59, 60, 65, 66, 67, 68, 69, 70, 71, 72, 73, 74, 75, 76, 77, 78, 79, 80, 81, 82, 83, 84, 85, 86, 87] (by decide +kernel) (by decide +kernel)
set_option maxRecDepth 20000 in
theorem gX8_count_X3_speakingSenders : GoodIn wsX8_count (wsV RX8 270 RX3 yX3_speakingSenders wsX3_speakingSenders) := goodIn_app (goodIn_of _ (by decide +kernel)) ggX8_count_X3_speakingSenders
set_option maxRecDepth 20000 in
theorem ggX8_count_X3_queuedWords : GoodIn wsX8_count wsX3_queuedWords := goodIn_r _ [36, 24, 37, 31, 38, 53, 54, 55, 56, 57, 58, 59, 60, 65, 66, 67, 68, 69, 70, 71, 72, 73, 74, 75, 76, 77, 78, 79, 80, 81, 82, 83, 84, 85, 86, 87] (by decide +kernel) (by decide +kernel)
set_option maxRecDepth 20000 in
theorem gX8_count_X3_queuedWords : GoodIn wsX8_count (wsV RX8 273 RX3 yX3_queuedWords wsX3_queuedWords) := goodIn_app (goodIn_of _ (by decide +kernel)) ggX8_count_X3_queuedWords
set_option maxRecDepth 20000 in
theorem ggX8_count_X3_litLamps : GoodIn wsX8_count wsX3_litLamps := goodIn_r _ [42, 43, 44, 45, 46, 17, 13, 18, 53, 54, 55, 56, 57, 58, 59, 60, 65, 66, 67, 68, 69, 70, 71, 72, 73, 74, 75, 76, 77, 78, 79, 80, 81, 82, 83, 84, 85, 86, 87] (by decide +kernel) (by decide +kernel)
set_option maxRecDepth 20000 in
theorem gX8_count_X3_litLamps : GoodIn wsX8_count (wsV RX8 276 RX3 yX3_litLamps wsX3_litLamps) := goodIn_app (goodIn_of _ (by decide +kernel)) ggX8_count_X3_litLamps
theorem dX8_count_0 : decode cX8_count 0 = .ok (.iload_n 1, 1) := by decide +kernel
theorem dX8_count_1 : decode cX8_count 1 = .ok (.tableswitch 188 0 12 #[67, 75, 86, 97, 108, 116, 124, 132, 142, 152, 162, 172, 180], 67) := by decide +kernel
theorem dX8_count_68 : decode cX8_count 68 = .ok (.aload_n 0, 1) := by decide +kernel
theorem dX8_count_69 : decode cX8_count 69 = .ok (.getfield 10, 3) := by decide +kernel
theorem dX8_count_72 : decode cX8_count 72 = .ok (.getfield 167, 3) := by decide +kernel
theorem dX8_count_75 : decode cX8_count 75 = .ok (.ireturn, 1) := by decide +kernel
theorem dX8_count_76 : decode cX8_count 76 = .ok (.aload_n 0, 1) := by decide +kernel
theorem dX8_count_77 : decode cX8_count 77 = .ok (.getfield 10, 3) := by decide +kernel
theorem dX8_count_80 : decode cX8_count 80 = .ok (.getfield 254, 3) := by decide +kernel
theorem dX8_count_83 : decode cX8_count 83 = .ok (.invokestatic 258, 3) := by decide +kernel
theorem dX8_count_86 : decode cX8_count 86 = .ok (.ireturn, 1) := by decide +kernel
theorem dX8_count_87 : decode cX8_count 87 = .ok (.aload_n 0, 1) := by decide +kernel
theorem dX8_count_88 : decode cX8_count 88 = .ok (.getfield 10, 3) := by decide +kernel
theorem dX8_count_91 : decode cX8_count 91 = .ok (.getfield 262, 3) := by decide +kernel
theorem dX8_count_94 : decode cX8_count 94 = .ok (.invokestatic 258, 3) := by decide +kernel
theorem dX8_count_97 : decode cX8_count 97 = .ok (.ireturn, 1) := by decide +kernel
theorem dX8_count_98 : decode cX8_count 98 = .ok (.aload_n 0, 1) := by decide +kernel
theorem dX8_count_99 : decode cX8_count 99 = .ok (.getfield 10, 3) := by decide +kernel
theorem dX8_count_102 : decode cX8_count 102 = .ok (.getfield 266, 3) := by decide +kernel
theorem dX8_count_105 : decode cX8_count 105 = .ok (.invokestatic 258, 3) := by decide +kernel
theorem dX8_count_108 : decode cX8_count 108 = .ok (.ireturn, 1) := by decide +kernel
theorem dX8_count_109 : decode cX8_count 109 = .ok (.aload_n 0, 1) := by decide +kernel
theorem dX8_count_110 : decode cX8_count 110 = .ok (.getfield 10, 3) := by decide +kernel
theorem dX8_count_113 : decode cX8_count 113 = .ok (.invokevirtual 270, 3) := by decide +kernel
theorem dX8_count_116 : decode cX8_count 116 = .ok (.ireturn, 1) := by decide +kernel
theorem dX8_count_117 : decode cX8_count 117 = .ok (.aload_n 0, 1) := by decide +kernel
theorem dX8_count_118 : decode cX8_count 118 = .ok (.getfield 10, 3) := by decide +kernel
theorem dX8_count_121 : decode cX8_count 121 = .ok (.invokevirtual 273, 3) := by decide +kernel
theorem dX8_count_124 : decode cX8_count 124 = .ok (.ireturn, 1) := by decide +kernel
theorem dX8_count_125 : decode cX8_count 125 = .ok (.aload_n 0, 1) := by decide +kernel
theorem dX8_count_126 : decode cX8_count 126 = .ok (.getfield 10, 3) := by decide +kernel
theorem dX8_count_129 : decode cX8_count 129 = .ok (.invokevirtual 276, 3) := by decide +kernel
theorem dX8_count_132 : decode cX8_count 132 = .ok (.ireturn, 1) := by decide +kernel
theorem dX8_count_133 : decode cX8_count 133 = .ok (.aload_n 0, 1) := by decide +kernel
theorem dX8_count_134 : decode cX8_count 134 = .ok (.getfield 10, 3) := by decide +kernel
theorem dX8_count_137 : decode cX8_count 137 = .ok (.getfield 121, 3) := by decide +kernel
theorem dX8_count_140 : decode cX8_count 140 = .ok (.iconst 0, 1) := by decide +kernel
theorem dX8_count_141 : decode cX8_count 141 = .ok (.iaload, 1) := by decide +kernel
theorem dX8_count_142 : decode cX8_count 142 = .ok (.ireturn, 1) := by decide +kernel
theorem dX8_count_143 : decode cX8_count 143 = .ok (.aload_n 0, 1) := by decide +kernel
theorem dX8_count_144 : decode cX8_count 144 = .ok (.getfield 10, 3) := by decide +kernel
theorem dX8_count_147 : decode cX8_count 147 = .ok (.getfield 121, 3) := by decide +kernel
theorem dX8_count_150 : decode cX8_count 150 = .ok (.iconst 1, 1) := by decide +kernel
theorem dX8_count_151 : decode cX8_count 151 = .ok (.iaload, 1) := by decide +kernel
theorem dX8_count_152 : decode cX8_count 152 = .ok (.ireturn, 1) := by decide +kernel
theorem dX8_count_153 : decode cX8_count 153 = .ok (.aload_n 0, 1) := by decide +kernel
theorem dX8_count_154 : decode cX8_count 154 = .ok (.getfield 10, 3) := by decide +kernel
theorem dX8_count_157 : decode cX8_count 157 = .ok (.getfield 121, 3) := by decide +kernel
theorem dX8_count_160 : decode cX8_count 160 = .ok (.iconst 2, 1) := by decide +kernel
theorem dX8_count_161 : decode cX8_count 161 = .ok (.iaload, 1) := by decide +kernel
theorem dX8_count_162 : decode cX8_count 162 = .ok (.ireturn, 1) := by decide +kernel
theorem dX8_count_163 : decode cX8_count 163 = .ok (.aload_n 0, 1) := by decide +kernel
theorem dX8_count_164 : decode cX8_count 164 = .ok (.getfield 10, 3) := by decide +kernel
theorem dX8_count_167 : decode cX8_count 167 = .ok (.getfield 121, 3) := by decide +kernel
theorem dX8_count_170 : decode cX8_count 170 = .ok (.iconst 3, 1) := by decide +kernel
theorem dX8_count_171 : decode cX8_count 171 = .ok (.iaload, 1) := by decide +kernel
theorem dX8_count_172 : decode cX8_count 172 = .ok (.ireturn, 1) := by decide +kernel
theorem dX8_count_173 : decode cX8_count 173 = .ok (.aload_n 0, 1) := by decide +kernel
theorem dX8_count_174 : decode cX8_count 174 = .ok (.getfield 29, 3) := by decide +kernel
theorem dX8_count_177 : decode cX8_count 177 = .ok (.getfield 161, 3) := by decide +kernel
theorem dX8_count_180 : decode cX8_count 180 = .ok (.ireturn, 1) := by decide +kernel
theorem dX8_count_181 : decode cX8_count 181 = .ok (.aload_n 0, 1) := by decide +kernel
theorem dX8_count_182 : decode cX8_count 182 = .ok (.getfield 36, 3) := by decide +kernel
theorem dX8_count_185 : decode cX8_count 185 = .ok (.getfield 136, 3) := by decide +kernel
theorem dX8_count_188 : decode cX8_count 188 = .ok (.ireturn, 1) := by decide +kernel
theorem dX8_count_189 : decode cX8_count 189 = .ok (.bipush (-2), 2) := by decide +kernel
theorem dX8_count_191 : decode cX8_count 191 = .ok (.ireturn, 1) := by decide +kernel
theorem dX8_total_0 : decode cX8_total 0 = .ok (.iload_n 1, 1) := by decide +kernel
theorem dX8_total_1 : decode cX8_total 1 = .ok (.ifCond .lt 8, 3) := by decide +kernel
theorem dX8_total_4 : decode cX8_total 4 = .ok (.iload_n 1, 1) := by decide +kernel
theorem dX8_total_5 : decode cX8_total 5 = .ok (.iconst 5, 1) := by decide +kernel
theorem dX8_total_6 : decode cX8_total 6 = .ok (.if_icmp .lt 6, 3) := by decide +kernel
theorem dX8_total_9 : decode cX8_total 9 = .ok (.bipush (-2), 2) := by decide +kernel
theorem dX8_total_11 : decode cX8_total 11 = .ok (.ireturn, 1) := by decide +kernel
theorem dX8_total_12 : decode cX8_total 12 = .ok (.aload_n 0, 1) := by decide +kernel
theorem dX8_total_13 : decode cX8_total 13 = .ok (.getfield 10, 3) := by decide +kernel
theorem dX8_total_16 : decode cX8_total 16 = .ok (.getfield 279, 3) := by decide +kernel
theorem dX8_total_19 : decode cX8_total 19 = .ok (.iload_n 1, 1) := by decide +kernel
theorem dX8_total_20 : decode cX8_total 20 = .ok (.iaload, 1) := by decide +kernel
theorem dX8_total_21 : decode cX8_total 21 = .ok (.ireturn, 1) := by decide +kernel
set_option maxRecDepth 20000 in
theorem ggX8_silentIn_X3_copyFrom : GoodIn wsX8_silentIn wsX3_copyFrom := goodIn_r _ [7, 8, 9, 10, 11, 12, 13, 14, 15, 16, 17, 18, 19, 20, 21, 22, 23, 24, 25, 26, 27, 28, 29, 30, 31, 32, 33, 34, 35, 36, 37, 38, 39, 40, 41, 42, 43, 44, 45, 46, 47, 48, 49, 50, 51, 52, 53, 54, 55, 56, 57, 58, 59, 60, 61, 62, 63, 64, 65, 66, 67, 68, 69, 70, 71, 72, 223, 224, 225, 226, 227, 228, 229, 230, 231, 232, 233, 234, 235, 236, 237, 238, 239, 240, 241, 242, 243, 244, 245, 246, 247, 248, 249, 250, 251, 252, 253, 254, 255, 256, 257, 258, 259, 260] (by decide +kernel) (by decide +kernel)
set_option maxRecDepth 20000 in
theorem gX8_silentIn_X3_copyFrom : GoodIn wsX8_silentIn (wsV RX8 164 RX3 yX3_copyFrom wsX3_copyFrom) := goodIn_app (goodIn_of _ (by decide +kernel)) ggX8_silentIn_X3_copyFrom
set_option maxRecDepth 20000 in
theorem ggX8_silentIn_X3_queuedWords : GoodIn wsX8_silentIn wsX3_queuedWords := goodIn_r _ [76, 8, 77, 78, 79, 223, 224, 225, 226, 227, 228, 229, 230, 241, 242, 243, 244, 245, 246, 247, 248, 249, 250, 251, 252, 253, 231, 232, 233, 234, 235, 236, 237, 238, 239, 240] (by decide +kernel) (by decide +kernel)
set_option maxRecDepth 20000 in
theorem gX8_silentIn_X3_queuedWords : GoodIn wsX8_silentIn (wsV RX8 273 RX3 yX3_queuedWords wsX3_queuedWords) := goodIn_app (goodIn_of _ (by decide +kernel)) ggX8_silentIn_X3_queuedWords
set_option maxRecDepth 20000 in
theorem ggX8_silentIn_X3_beat : GoodIn wsX8_silentIn wsX3_beat := goodIn_r _ [83, 14, 84, 85, 86, 6, 87, 8, 77, 78, 88, 89, 90, 91, 92, 93, 11, 94, 95, 96, 64, 97, 66, 67, 98, 99, 100, 18, 101, 23, 26, 21, 24, 25, 102, 103, 104, 105, 106, 107, 9, 108, 109, 110, 111, 112, 113, 114, 115, 116, 117, 118, 119, 20, 120, 36, 121, 122, 123, 124, 125, 12, 126, 127, 128, 129, 130, 131, 132, 41, 133, 134, 135, 45, 44, 136, 137, 138, 139, 13, 140, 141, 142, 143, 144, 145, 146, 147, 148, 149, 150, 151, 152, 153, 154, 155, 156, 157, 158, 159, 160, 161, 162, 163, 164, 165, 166, 167, 168, 169, 170, 171, 172, 173, 174, 175, 176, 68, 69, 177, 178, 179, 180, 181, 182, 183, 184, 185, 186, 187, 188, 10, 189, 190, 191, 192, 70, 71, 193, 194, 195, 52, 196, 197, 198, 199, 200, 54, 201, 202, 203, 204, 72, 205, 206, 207, 208, 55, 57, 56, 209, 210, 211, 212, 213, 214, 215, 216, 223, 224, 225, 226, 227, 228, 229, 230, 241, 242, 243, 244, 245, 246, 247, 248, 249, 250, 251, 252, 253, 231, 232, 233, 234, 235, 236, 237, 238, 239, 240, 254, 255, 256, 257, 258, 259, 260] (by decide +kernel) (by decide +kernel)
set_option maxRecDepth 20000 in
theorem gX8_silentIn_X3_beat : GoodIn wsX8_silentIn (wsV RX8 282 RX3 yX3_beat wsX3_beat) := goodIn_app (goodIn_of _ (by decide +kernel)) ggX8_silentIn_X3_beat
theorem dX8_silentIn_0 : decode cX8_silentIn 0 = .ok (.aload_n 0, 1) := by decide +kernel
theorem dX8_silentIn_1 : decode cX8_silentIn 1 = .ok (.getfield 16, 3) := by decide +kernel
theorem dX8_silentIn_4 : decode cX8_silentIn 4 = .ok (.aload_n 0, 1) := by decide +kernel
theorem dX8_silentIn_5 : decode cX8_silentIn 5 = .ok (.getfield 10, 3) := by decide +kernel
theorem dX8_silentIn_8 : decode cX8_silentIn 8 = .ok (.invokevirtual 164, 3) := by decide +kernel
theorem dX8_silentIn_11 : decode cX8_silentIn 11 = .ok (.iconst 0, 1) := by decide +kernel
theorem dX8_silentIn_12 : decode cX8_silentIn 12 = .ok (.istore_n 1, 1) := by decide +kernel
theorem dX8_silentIn_13 : decode cX8_silentIn 13 = .ok (.iload_n 1, 1) := by decide +kernel
theorem dX8_silentIn_14 : decode cX8_silentIn 14 = .ok (.sipush 600, 3) := by decide +kernel
theorem dX8_silentIn_17 : decode cX8_silentIn 17 = .ok (.if_icmp .gt 29, 3) := by decide +kernel
theorem dX8_silentIn_20 : decode cX8_silentIn 20 = .ok (.aload_n 0, 1) := by decide +kernel
theorem dX8_silentIn_21 : decode cX8_silentIn 21 = .ok (.getfield 16, 3) := by decide +kernel
theorem dX8_silentIn_24 : decode cX8_silentIn 24 = .ok (.invokevirtual 273, 3) := by decide +kernel
theorem dX8_silentIn_27 : decode cX8_silentIn 27 = .ok (.ifCond .ne 5, 3) := by decide +kernel
theorem dX8_silentIn_30 : decode cX8_silentIn 30 = .ok (.iload_n 1, 1) := by decide +kernel
theorem dX8_silentIn_31 : decode cX8_silentIn 31 = .ok (.ireturn, 1) := by decide +kernel
theorem dX8_silentIn_32 : decode cX8_silentIn 32 = .ok (.aload_n 0, 1) := by decide +kernel
theorem dX8_silentIn_33 : decode cX8_silentIn 33 = .ok (.getfield 16, 3) := by decide +kernel
theorem dX8_silentIn_36 : decode cX8_silentIn 36 = .ok (.invokevirtual 282, 3) := by decide +kernel
theorem dX8_silentIn_39 : decode cX8_silentIn 39 = .ok (.pop, 1) := by decide +kernel
theorem dX8_silentIn_40 : decode cX8_silentIn 40 = .ok (.iinc 1 1, 3) := by decide +kernel
theorem dX8_silentIn_43 : decode cX8_silentIn 43 = .ok (.goto (-30), 3) := by decide +kernel
theorem dX8_silentIn_46 : decode cX8_silentIn 46 = .ok (.bipush (-5), 2) := by decide +kernel
theorem dX8_silentIn_48 : decode cX8_silentIn 48 = .ok (.ireturn, 1) := by decide +kernel
set_option maxRecDepth 20000 in
theorem ggX8_levelIn_X3_lampAt : GoodIn wsX8_levelIn wsX3_lampAt := goodIn_r _ [8, 9, 10, 11, 12, 13, 14, 238, 239, 240, 241, 242, 243, 244, 245, 231, 232, 233, 234, 235, 236, 237, 246, 247, 248, 249, 250, 251, 252, 253, 254, 255, 256, 257, 258, 259, 260, 261] (by decide +kernel) (by decide +kernel)
set_option maxRecDepth 20000 in
theorem gX8_levelIn_X3_lampAt : GoodIn wsX8_levelIn (wsV RX8 204 RX3 yX3_lampAt wsX3_lampAt) := goodIn_app (goodIn_of _ (by decide +kernel)) ggX8_levelIn_X3_lampAt
set_option maxRecDepth 20000 in
theorem ggX8_levelIn_X3_copyFrom : GoodIn wsX8_levelIn wsX3_copyFrom := goodIn_r _ [18, 19, 20, 9, 21, 22, 23, 24, 25, 26, 27, 28, 29, 30, 31, 32, 33, 34, 35, 36, 37, 38, 39, 40, 41, 42, 43, 44, 45, 12, 46, 47, 48, 49, 50, 51, 52, 53, 54, 55, 56, 57, 58, 59, 60, 61, 62, 63, 64, 65, 66, 67, 68, 69, 70, 71, 72, 73, 74, 75, 76, 77, 78, 79, 80, 81, 238, 239, 240, 241, 242, 243, 244, 245, 252, 253, 254, 255, 256, 257, 258, 259, 260, 261, 231, 232, 233, 234, 235, 236, 237, 246, 247, 248, 249, 250, 251, 262, 263, 264, 265, 266, 267, 268] (by decide +kernel) (by decide +kernel)
set_option maxRecDepth 20000 in
theorem gX8_levelIn_X3_copyFrom : GoodIn wsX8_levelIn (wsV RX8 164 RX3 yX3_copyFrom wsX3_copyFrom) := goodIn_app (goodIn_of _ (by decide +kernel)) ggX8_levelIn_X3_copyFrom
set_option maxRecDepth 20000 in
theorem ggX8_levelIn_X3_letPass : GoodIn wsX8_levelIn wsX3_letPass := goodIn_r _ [85, 86, 87, 88, 7, 89, 24, 90, 91, 92, 93, 19, 94, 95, 96, 97, 98, 99, 100, 101, 21, 102, 103, 104, 73, 105, 75, 76, 106, 107, 108, 28, 109, 33, 36, 31, 34, 35, 110, 111, 112, 113, 114, 115, 20, 116, 117, 118, 119, 120, 121, 122, 123, 124, 125, 126, 127, 30, 128, 12, 129, 130, 131, 132, 133, 22, 134, 135, 136, 137, 138, 139, 140, 50, 141, 142, 143, 54, 53, 144, 145, 146, 147, 23, 148, 149, 150, 151, 152, 153, 154, 155, 156, 157, 158, 159, 160, 161, 162, 163, 164, 165, 166, 167, 168, 169, 170, 171, 172, 173, 174, 175, 176, 177, 178, 179, 180, 181, 182, 183, 184, 77, 78, 185, 186, 187, 188, 189, 190, 191, 192, 193, 194, 195, 196, 9, 197, 198, 199, 200, 79, 80, 201, 202, 203, 61, 204, 205, 206, 207, 208, 63, 209, 210, 211, 212, 81, 213, 214, 215, 216, 64, 66, 65, 217, 218, 219, 220, 221, 222, 223, 224, 238, 239, 240, 241, 242, 243, 244, 245, 231, 232, 233, 234, 235, 236, 237, 246, 247, 248, 249, 250, 251, 252, 253, 254, 255, 256, 257, 258, 259, 260, 261, 262, 263, 264, 265, 266, 267, 268] (by decide +kernel) (by decide +kernel)
set_option maxRecDepth 20000 in
theorem gX8_levelIn_X3_letPass : GoodIn wsX8_levelIn (wsV RX8 124 RX3 yX3_letPass wsX3_letPass) := goodIn_app (goodIn_of _ (by decide +kernel)) ggX8_levelIn_X3_letPass
theorem dX8_levelIn_0 : decode cX8_levelIn 0 = .ok (.aload_n 0, 1) := by decide +kernel
theorem dX8_levelIn_1 : decode cX8_levelIn 1 = .ok (.getfield 10, 3) := by decide +kernel
theorem dX8_levelIn_4 : decode cX8_levelIn 4 = .ok (.iload_n 1, 1) := by decide +kernel
theorem dX8_levelIn_5 : decode cX8_levelIn 5 = .ok (.invokevirtual 204, 3) := by decide +kernel
theorem dX8_levelIn_8 : decode cX8_levelIn 8 = .ok (.ifnonnull 5, 3) := by decide +kernel
theorem dX8_levelIn_11 : decode cX8_levelIn 11 = .ok (.iconst (-1), 1) := by decide +kernel
theorem dX8_levelIn_12 : decode cX8_levelIn 12 = .ok (.ireturn, 1) := by decide +kernel
theorem dX8_levelIn_13 : decode cX8_levelIn 13 = .ok (.iload_n 2, 1) := by decide +kernel
theorem dX8_levelIn_14 : decode cX8_levelIn 14 = .ok (.ifCond .lt 10, 3) := by decide +kernel
theorem dX8_levelIn_17 : decode cX8_levelIn 17 = .ok (.iload_n 2, 1) := by decide +kernel
theorem dX8_levelIn_18 : decode cX8_levelIn 18 = .ok (.sipush 400, 3) := by decide +kernel
theorem dX8_levelIn_21 : decode cX8_levelIn 21 = .ok (.if_icmp .le 6, 3) := by decide +kernel
theorem dX8_levelIn_24 : decode cX8_levelIn 24 = .ok (.bipush (-2), 2) := by decide +kernel
theorem dX8_levelIn_26 : decode cX8_levelIn 26 = .ok (.ireturn, 1) := by decide +kernel
theorem dX8_levelIn_27 : decode cX8_levelIn 27 = .ok (.aload_n 0, 1) := by decide +kernel
theorem dX8_levelIn_28 : decode cX8_levelIn 28 = .ok (.getfield 16, 3) := by decide +kernel
theorem dX8_levelIn_31 : decode cX8_levelIn 31 = .ok (.aload_n 0, 1) := by decide +kernel
theorem dX8_levelIn_32 : decode cX8_levelIn 32 = .ok (.getfield 10, 3) := by decide +kernel
theorem dX8_levelIn_35 : decode cX8_levelIn 35 = .ok (.invokevirtual 164, 3) := by decide +kernel
theorem dX8_levelIn_38 : decode cX8_levelIn 38 = .ok (.aload_n 0, 1) := by decide +kernel
theorem dX8_levelIn_39 : decode cX8_levelIn 39 = .ok (.getfield 16, 3) := by decide +kernel
theorem dX8_levelIn_42 : decode cX8_levelIn 42 = .ok (.iload_n 2, 1) := by decide +kernel
theorem dX8_levelIn_43 : decode cX8_levelIn 43 = .ok (.invokevirtual 124, 3) := by decide +kernel
theorem dX8_levelIn_46 : decode cX8_levelIn 46 = .ok (.pop, 1) := by decide +kernel
theorem dX8_levelIn_47 : decode cX8_levelIn 47 = .ok (.aload_n 0, 1) := by decide +kernel
theorem dX8_levelIn_48 : decode cX8_levelIn 48 = .ok (.getfield 16, 3) := by decide +kernel
theorem dX8_levelIn_51 : decode cX8_levelIn 51 = .ok (.iload_n 1, 1) := by decide +kernel
theorem dX8_levelIn_52 : decode cX8_levelIn 52 = .ok (.invokevirtual 204, 3) := by decide +kernel
theorem dX8_levelIn_55 : decode cX8_levelIn 55 = .ok (.astore_n 3, 1) := by decide +kernel
theorem dX8_levelIn_56 : decode cX8_levelIn 56 = .ok (.aload_n 3, 1) := by decide +kernel
theorem dX8_levelIn_57 : decode cX8_levelIn 57 = .ok (.ifnonnull 7, 3) := by decide +kernel
theorem dX8_levelIn_60 : decode cX8_levelIn 60 = .ok (.iconst (-1), 1) := by decide +kernel
theorem dX8_levelIn_61 : decode cX8_levelIn 61 = .ok (.goto 7, 3) := by decide +kernel
theorem dX8_levelIn_64 : decode cX8_levelIn 64 = .ok (.aload_n 3, 1) := by decide +kernel
theorem dX8_levelIn_65 : decode cX8_levelIn 65 = .ok (.getfield 215, 3) := by decide +kernel
theorem dX8_levelIn_68 : decode cX8_levelIn 68 = .ok (.ireturn, 1) := by decide +kernel
theorem dX8_freshness_0 : decode cX8_freshness 0 = .ok (.aload_n 0, 1) := by decide +kernel
theorem dX8_freshness_1 : decode cX8_freshness 1 = .ok (.getfield 10, 3) := by decide +kernel
theorem dX8_freshness_4 : decode cX8_freshness 4 = .ok (.getfield 279, 3) := by decide +kernel
theorem dX8_freshness_7 : decode cX8_freshness 7 = .ok (.iconst 2, 1) := by decide +kernel
theorem dX8_freshness_8 : decode cX8_freshness 8 = .ok (.iaload, 1) := by decide +kernel
theorem dX8_freshness_9 : decode cX8_freshness 9 = .ok (.aload_n 0, 1) := by decide +kernel
theorem dX8_freshness_10 : decode cX8_freshness 10 = .ok (.getfield 10, 3) := by decide +kernel
theorem dX8_freshness_13 : decode cX8_freshness 13 = .ok (.getfield 279, 3) := by decide +kernel
theorem dX8_freshness_16 : decode cX8_freshness 16 = .ok (.iconst 3, 1) := by decide +kernel
theorem dX8_freshness_17 : decode cX8_freshness 17 = .ok (.iaload, 1) := by decide +kernel
theorem dX8_freshness_18 : decode cX8_freshness 18 = .ok (.iadd, 1) := by decide +kernel
theorem dX8_freshness_19 : decode cX8_freshness 19 = .ok (.aload_n 0, 1) := by decide +kernel
theorem dX8_freshness_20 : decode cX8_freshness 20 = .ok (.getfield 10, 3) := by decide +kernel
theorem dX8_freshness_23 : decode cX8_freshness 23 = .ok (.getfield 279, 3) := by decide +kernel
theorem dX8_freshness_26 : decode cX8_freshness 26 = .ok (.iconst 4, 1) := by decide +kernel
theorem dX8_freshness_27 : decode cX8_freshness 27 = .ok (.iaload, 1) := by decide +kernel
theorem dX8_freshness_28 : decode cX8_freshness 28 = .ok (.iadd, 1) := by decide +kernel
theorem dX8_freshness_29 : decode cX8_freshness 29 = .ok (.istore_n 1, 1) := by decide +kernel
theorem dX8_freshness_30 : decode cX8_freshness 30 = .ok (.iload_n 1, 1) := by decide +kernel
theorem dX8_freshness_31 : decode cX8_freshness 31 = .ok (.ifCond .ne 5, 3) := by decide +kernel
theorem dX8_freshness_34 : decode cX8_freshness 34 = .ok (.fconst 0, 1) := by decide +kernel
theorem dX8_freshness_35 : decode cX8_freshness 35 = .ok (.freturn, 1) := by decide +kernel
theorem dX8_freshness_36 : decode cX8_freshness 36 = .ok (.aload_n 0, 1) := by decide +kernel
theorem dX8_freshness_37 : decode cX8_freshness 37 = .ok (.getfield 10, 3) := by decide +kernel
theorem dX8_freshness_40 : decode cX8_freshness 40 = .ok (.getfield 279, 3) := by decide +kernel
theorem dX8_freshness_43 : decode cX8_freshness 43 = .ok (.iconst 2, 1) := by decide +kernel
theorem dX8_freshness_44 : decode cX8_freshness 44 = .ok (.iaload, 1) := by decide +kernel
theorem dX8_freshness_45 : decode cX8_freshness 45 = .ok (.i2f, 1) := by decide +kernel
theorem dX8_freshness_46 : decode cX8_freshness 46 = .ok (.iload_n 1, 1) := by decide +kernel
theorem dX8_freshness_47 : decode cX8_freshness 47 = .ok (.i2f, 1) := by decide +kernel
theorem dX8_freshness_48 : decode cX8_freshness 48 = .ok (.fdiv, 1) := by decide +kernel
theorem dX8_freshness_49 : decode cX8_freshness 49 = .ok (.freturn, 1) := by decide +kernel
theorem dX8_isWire_0 : decode cX8_isWire 0 = .ok (.iload_n 0, 1) := by decide +kernel
theorem dX8_isWire_1 : decode cX8_isWire 1 = .ok (.ifCond .lt 13, 3) := by decide +kernel
theorem dX8_isWire_4 : decode cX8_isWire 4 = .ok (.iload_n 0, 1) := by decide +kernel
theorem dX8_isWire_5 : decode cX8_isWire 5 = .ok (.bipush 6, 2) := by decide +kernel
theorem dX8_isWire_7 : decode cX8_isWire 7 = .ok (.if_icmp .ge 7, 3) := by decide +kernel
theorem dX8_isWire_10 : decode cX8_isWire 10 = .ok (.iconst 1, 1) := by decide +kernel
theorem dX8_isWire_11 : decode cX8_isWire 11 = .ok (.goto 4, 3) := by decide +kernel
theorem dX8_isWire_14 : decode cX8_isWire 14 = .ok (.iconst 0, 1) := by decide +kernel
theorem dX8_isWire_15 : decode cX8_isWire 15 = .ok (.ireturn, 1) := by decide +kernel
theorem dX8_isWord_0 : decode cX8_isWord 0 = .ok (.iload_n 0, 1) := by decide +kernel
theorem dX8_isWord_1 : decode cX8_isWord 1 = .ok (.ifCond .lt 13, 3) := by decide +kernel
theorem dX8_isWord_4 : decode cX8_isWord 4 = .ok (.iload_n 0, 1) := by decide +kernel
theorem dX8_isWord_5 : decode cX8_isWord 5 = .ok (.bipush 32, 2) := by decide +kernel
theorem dX8_isWord_7 : decode cX8_isWord 7 = .ok (.if_icmp .ge 7, 3) := by decide +kernel
theorem dX8_isWord_10 : decode cX8_isWord 10 = .ok (.iconst 1, 1) := by decide +kernel
theorem dX8_isWord_11 : decode cX8_isWord 11 = .ok (.goto 4, 3) := by decide +kernel
theorem dX8_isWord_14 : decode cX8_isWord 14 = .ok (.iconst 0, 1) := by decide +kernel
theorem dX8_isWord_15 : decode cX8_isWord 15 = .ok (.ireturn, 1) := by decide +kernel
theorem dX8_asNumber_0 : decode cX8_asNumber 0 = .ok (.iload_n 0, 1) := by decide +kernel
theorem dX8_asNumber_1 : decode cX8_asNumber 1 = .ok (.ifCond .eq 7, 3) := by decide +kernel
theorem dX8_asNumber_4 : decode cX8_asNumber 4 = .ok (.iconst 1, 1) := by decide +kernel
theorem dX8_asNumber_5 : decode cX8_asNumber 5 = .ok (.goto 4, 3) := by decide +kernel
theorem dX8_asNumber_8 : decode cX8_asNumber 8 = .ok (.iconst 0, 1) := by decide +kernel
theorem dX8_asNumber_9 : decode cX8_asNumber 9 = .ok (.ireturn, 1) := by decide +kernel
theorem dX8_frameBit_0 : decode cX8_frameBit 0 = .ok (.iload_n 1, 1) := by decide +kernel
theorem dX8_frameBit_1 : decode cX8_frameBit 1 = .ok (.iconst 4, 1) := by decide +kernel
theorem dX8_frameBit_2 : decode cX8_frameBit 2 = .ok (.if_icmp .ge 12, 3) := by decide +kernel
theorem dX8_frameBit_5 : decode cX8_frameBit 5 = .ok (.bipush 14, 2) := by decide +kernel
theorem dX8_frameBit_7 : decode cX8_frameBit 7 = .ok (.iconst 3, 1) := by decide +kernel
theorem dX8_frameBit_8 : decode cX8_frameBit 8 = .ok (.iload_n 1, 1) := by decide +kernel
theorem dX8_frameBit_9 : decode cX8_frameBit 9 = .ok (.isub, 1) := by decide +kernel
theorem dX8_frameBit_10 : decode cX8_frameBit 10 = .ok (.ishr, 1) := by decide +kernel
theorem dX8_frameBit_11 : decode cX8_frameBit 11 = .ok (.iconst 1, 1) := by decide +kernel
theorem dX8_frameBit_12 : decode cX8_frameBit 12 = .ok (.iand, 1) := by decide +kernel
theorem dX8_frameBit_13 : decode cX8_frameBit 13 = .ok (.ireturn, 1) := by decide +kernel
theorem dX8_frameBit_14 : decode cX8_frameBit 14 = .ok (.iload_n 1, 1) := by decide +kernel
theorem dX8_frameBit_15 : decode cX8_frameBit 15 = .ok (.iconst 4, 1) := by decide +kernel
theorem dX8_frameBit_16 : decode cX8_frameBit 16 = .ok (.isub, 1) := by decide +kernel
theorem dX8_frameBit_17 : decode cX8_frameBit 17 = .ok (.iconst 2, 1) := by decide +kernel
theorem dX8_frameBit_18 : decode cX8_frameBit 18 = .ok (.idiv, 1) := by decide +kernel
theorem dX8_frameBit_19 : decode cX8_frameBit 19 = .ok (.istore_n 2, 1) := by decide +kernel
theorem dX8_frameBit_20 : decode cX8_frameBit 20 = .ok (.iload_n 0, 1) := by decide +kernel
theorem dX8_frameBit_21 : decode cX8_frameBit 21 = .ok (.iconst 4, 1) := by decide +kernel
theorem dX8_frameBit_22 : decode cX8_frameBit 22 = .ok (.iload_n 2, 1) := by decide +kernel
theorem dX8_frameBit_23 : decode cX8_frameBit 23 = .ok (.isub, 1) := by decide +kernel
theorem dX8_frameBit_24 : decode cX8_frameBit 24 = .ok (.ishr, 1) := by decide +kernel
theorem dX8_frameBit_25 : decode cX8_frameBit 25 = .ok (.iconst 1, 1) := by decide +kernel
theorem dX8_frameBit_26 : decode cX8_frameBit 26 = .ok (.iand, 1) := by decide +kernel
theorem dX8_frameBit_27 : decode cX8_frameBit 27 = .ok (.istore_n 3, 1) := by decide +kernel
theorem dX8_frameBit_28 : decode cX8_frameBit 28 = .ok (.iload_n 1, 1) := by decide +kernel
theorem dX8_frameBit_29 : decode cX8_frameBit 29 = .ok (.iconst 2, 1) := by decide +kernel
theorem dX8_frameBit_30 : decode cX8_frameBit 30 = .ok (.irem, 1) := by decide +kernel
theorem dX8_frameBit_31 : decode cX8_frameBit 31 = .ok (.ifCond .ne 7, 3) := by decide +kernel
theorem dX8_frameBit_34 : decode cX8_frameBit 34 = .ok (.iload_n 3, 1) := by decide +kernel
theorem dX8_frameBit_35 : decode cX8_frameBit 35 = .ok (.goto 6, 3) := by decide +kernel
theorem dX8_frameBit_38 : decode cX8_frameBit 38 = .ok (.iconst 1, 1) := by decide +kernel
theorem dX8_frameBit_39 : decode cX8_frameBit 39 = .ok (.iload_n 3, 1) := by decide +kernel
theorem dX8_frameBit_40 : decode cX8_frameBit 40 = .ok (.isub, 1) := by decide +kernel
theorem dX8_frameBit_41 : decode cX8_frameBit 41 = .ok (.ireturn, 1) := by decide +kernel
theorem dX8_firstFree_0 : decode cX8_firstFree 0 = .ok (.aload_n 0, 1) := by decide +kernel
theorem dX8_firstFree_1 : decode cX8_firstFree 1 = .ok (.astore_n 1, 1) := by decide +kernel
theorem dX8_firstFree_2 : decode cX8_firstFree 2 = .ok (.aload_n 1, 1) := by decide +kernel
theorem dX8_firstFree_3 : decode cX8_firstFree 3 = .ok (.arraylength, 1) := by decide +kernel
theorem dX8_firstFree_4 : decode cX8_firstFree 4 = .ok (.istore_n 2, 1) := by decide +kernel
theorem dX8_firstFree_5 : decode cX8_firstFree 5 = .ok (.iconst 0, 1) := by decide +kernel
theorem dX8_firstFree_6 : decode cX8_firstFree 6 = .ok (.istore_n 3, 1) := by decide +kernel
theorem dX8_firstFree_7 : decode cX8_firstFree 7 = .ok (.iload_n 3, 1) := by decide +kernel
theorem dX8_firstFree_8 : decode cX8_firstFree 8 = .ok (.iload_n 2, 1) := by decide +kernel
theorem dX8_firstFree_9 : decode cX8_firstFree 9 = .ok (.if_icmp .ge 25, 3) := by decide +kernel
theorem dX8_firstFree_12 : decode cX8_firstFree 12 = .ok (.aload_n 1, 1) := by decide +kernel
theorem dX8_firstFree_13 : decode cX8_firstFree 13 = .ok (.iload_n 3, 1) := by decide +kernel
theorem dX8_firstFree_14 : decode cX8_firstFree 14 = .ok (.aaload, 1) := by decide +kernel
theorem dX8_firstFree_15 : decode cX8_firstFree 15 = .ok (.astore 4, 2) := by decide +kernel
theorem dX8_firstFree_17 : decode cX8_firstFree 17 = .ok (.aload 4, 2) := by decide +kernel
theorem dX8_firstFree_19 : decode cX8_firstFree 19 = .ok (.getfield 88, 3) := by decide +kernel
theorem dX8_firstFree_22 : decode cX8_firstFree 22 = .ok (.ifCond .ne 6, 3) := by decide +kernel
theorem dX8_firstFree_25 : decode cX8_firstFree 25 = .ok (.aload 4, 2) := by decide +kernel
theorem dX8_firstFree_27 : decode cX8_firstFree 27 = .ok (.areturn, 1) := by decide +kernel
theorem dX8_firstFree_28 : decode cX8_firstFree 28 = .ok (.iinc 3 1, 3) := by decide +kernel
theorem dX8_firstFree_31 : decode cX8_firstFree 31 = .ok (.goto (-24), 3) := by decide +kernel
theorem dX8_firstFree_34 : decode cX8_firstFree 34 = .ok (.aconst_null, 1) := by decide +kernel
theorem dX8_firstFree_35 : decode cX8_firstFree 35 = .ok (.areturn, 1) := by decide +kernel
theorem dX8_presentAt_0 : decode cX8_presentAt 0 = .ok (.iload_n 1, 1) := by decide +kernel
theorem dX8_presentAt_1 : decode cX8_presentAt 1 = .ok (.ifCond .lt 9, 3) := by decide +kernel
theorem dX8_presentAt_4 : decode cX8_presentAt 4 = .ok (.iload_n 1, 1) := by decide +kernel
theorem dX8_presentAt_5 : decode cX8_presentAt 5 = .ok (.aload_n 0, 1) := by decide +kernel
theorem dX8_presentAt_6 : decode cX8_presentAt 6 = .ok (.arraylength, 1) := by decide +kernel
theorem dX8_presentAt_7 : decode cX8_presentAt 7 = .ok (.if_icmp .lt 5, 3) := by decide +kernel
theorem dX8_presentAt_10 : decode cX8_presentAt 10 = .ok (.aconst_null, 1) := by decide +kernel
theorem dX8_presentAt_11 : decode cX8_presentAt 11 = .ok (.areturn, 1) := by decide +kernel
theorem dX8_presentAt_12 : decode cX8_presentAt 12 = .ok (.aload_n 0, 1) := by decide +kernel
theorem dX8_presentAt_13 : decode cX8_presentAt 13 = .ok (.iload_n 1, 1) := by decide +kernel
theorem dX8_presentAt_14 : decode cX8_presentAt 14 = .ok (.aaload, 1) := by decide +kernel
theorem dX8_presentAt_15 : decode cX8_presentAt 15 = .ok (.getfield 88, 3) := by decide +kernel
theorem dX8_presentAt_18 : decode cX8_presentAt 18 = .ok (.ifCond .eq 9, 3) := by decide +kernel
theorem dX8_presentAt_21 : decode cX8_presentAt 21 = .ok (.aload_n 0, 1) := by decide +kernel
theorem dX8_presentAt_22 : decode cX8_presentAt 22 = .ok (.iload_n 1, 1) := by decide +kernel
theorem dX8_presentAt_23 : decode cX8_presentAt 23 = .ok (.aaload, 1) := by decide +kernel
theorem dX8_presentAt_24 : decode cX8_presentAt 24 = .ok (.goto 4, 3) := by decide +kernel
theorem dX8_presentAt_27 : decode cX8_presentAt 27 = .ok (.aconst_null, 1) := by decide +kernel
theorem dX8_presentAt_28 : decode cX8_presentAt 28 = .ok (.areturn, 1) := by decide +kernel
set_option maxRecDepth 20000 in
theorem ggX8_presentIn_X8_asNumber : GoodIn wsX8_presentIn wsX8_asNumber := goodIn_r _ [5] (by decide +kernel) (by decide +kernel)
set_option maxRecDepth 20000 in
theorem gX8_presentIn_X8_asNumber : GoodIn wsX8_presentIn (va_wsS RX8 110 yX8_asNumber wsX8_asNumber) := goodIn_app (goodIn_of _ (by decide +kernel)) ggX8_presentIn_X8_asNumber
theorem dX8_presentIn_0 : decode cX8_presentIn 0 = .ok (.iconst 0, 1) := by decide +kernel
theorem dX8_presentIn_1 : decode cX8_presentIn 1 = .ok (.istore_n 1, 1) := by decide +kernel
theorem dX8_presentIn_2 : decode cX8_presentIn 2 = .ok (.aload_n 0, 1) := by decide +kernel
theorem dX8_presentIn_3 : decode cX8_presentIn 3 = .ok (.astore_n 2, 1) := by decide +kernel
theorem dX8_presentIn_4 : decode cX8_presentIn 4 = .ok (.aload_n 2, 1) := by decide +kernel
theorem dX8_presentIn_5 : decode cX8_presentIn 5 = .ok (.arraylength, 1) := by decide +kernel
theorem dX8_presentIn_6 : decode cX8_presentIn 6 = .ok (.istore_n 3, 1) := by decide +kernel
theorem dX8_presentIn_7 : decode cX8_presentIn 7 = .ok (.iconst 0, 1) := by decide +kernel
theorem dX8_presentIn_8 : decode cX8_presentIn 8 = .ok (.istore 4, 2) := by decide +kernel
theorem dX8_presentIn_10 : decode cX8_presentIn 10 = .ok (.iload 4, 2) := by decide +kernel
theorem dX8_presentIn_12 : decode cX8_presentIn 12 = .ok (.iload_n 3, 1) := by decide +kernel
theorem dX8_presentIn_13 : decode cX8_presentIn 13 = .ok (.if_icmp .ge 26, 3) := by decide +kernel
theorem dX8_presentIn_16 : decode cX8_presentIn 16 = .ok (.aload_n 2, 1) := by decide +kernel
theorem dX8_presentIn_17 : decode cX8_presentIn 17 = .ok (.iload 4, 2) := by decide +kernel
theorem dX8_presentIn_19 : decode cX8_presentIn 19 = .ok (.aaload, 1) := by decide +kernel
theorem dX8_presentIn_20 : decode cX8_presentIn 20 = .ok (.astore 5, 2) := by decide +kernel
theorem dX8_presentIn_22 : decode cX8_presentIn 22 = .ok (.iload_n 1, 1) := by decide +kernel
theorem dX8_presentIn_23 : decode cX8_presentIn 23 = .ok (.aload 5, 2) := by decide +kernel
theorem dX8_presentIn_25 : decode cX8_presentIn 25 = .ok (.getfield 88, 3) := by decide +kernel
theorem dX8_presentIn_28 : decode cX8_presentIn 28 = .ok (.invokestatic 110, 3) := by decide +kernel
theorem dX8_presentIn_31 : decode cX8_presentIn 31 = .ok (.iadd, 1) := by decide +kernel
theorem dX8_presentIn_32 : decode cX8_presentIn 32 = .ok (.istore_n 1, 1) := by decide +kernel
theorem dX8_presentIn_33 : decode cX8_presentIn 33 = .ok (.iinc 4 1, 3) := by decide +kernel
theorem dX8_presentIn_36 : decode cX8_presentIn 36 = .ok (.goto (-26), 3) := by decide +kernel
theorem dX8_presentIn_39 : decode cX8_presentIn 39 = .ok (.iload_n 1, 1) := by decide +kernel
theorem dX8_presentIn_40 : decode cX8_presentIn 40 = .ok (.ireturn, 1) := by decide +kernel
theorem dX8_copyRow_0 : decode cX8_copyRow 0 = .ok (.iconst 0, 1) := by decide +kernel
theorem dX8_copyRow_1 : decode cX8_copyRow 1 = .ok (.istore_n 2, 1) := by decide +kernel
theorem dX8_copyRow_2 : decode cX8_copyRow 2 = .ok (.iload_n 2, 1) := by decide +kernel
theorem dX8_copyRow_3 : decode cX8_copyRow 3 = .ok (.aload_n 0, 1) := by decide +kernel
theorem dX8_copyRow_4 : decode cX8_copyRow 4 = .ok (.arraylength, 1) := by decide +kernel
theorem dX8_copyRow_5 : decode cX8_copyRow 5 = .ok (.if_icmp .ge 21, 3) := by decide +kernel
theorem dX8_copyRow_8 : decode cX8_copyRow 8 = .ok (.iload_n 2, 1) := by decide +kernel
theorem dX8_copyRow_9 : decode cX8_copyRow 9 = .ok (.aload_n 1, 1) := by decide +kernel
theorem dX8_copyRow_10 : decode cX8_copyRow 10 = .ok (.arraylength, 1) := by decide +kernel
theorem dX8_copyRow_11 : decode cX8_copyRow 11 = .ok (.if_icmp .ge 15, 3) := by decide +kernel
theorem dX8_copyRow_14 : decode cX8_copyRow 14 = .ok (.aload_n 1, 1) := by decide +kernel
theorem dX8_copyRow_15 : decode cX8_copyRow 15 = .ok (.iload_n 2, 1) := by decide +kernel
theorem dX8_copyRow_16 : decode cX8_copyRow 16 = .ok (.aload_n 0, 1) := by decide +kernel
theorem dX8_copyRow_17 : decode cX8_copyRow 17 = .ok (.iload_n 2, 1) := by decide +kernel
theorem dX8_copyRow_18 : decode cX8_copyRow 18 = .ok (.iaload, 1) := by decide +kernel
theorem dX8_copyRow_19 : decode cX8_copyRow 19 = .ok (.iastore, 1) := by decide +kernel
theorem dX8_copyRow_20 : decode cX8_copyRow 20 = .ok (.iinc 2 1, 3) := by decide +kernel
theorem dX8_copyRow_23 : decode cX8_copyRow 23 = .ok (.goto (-21), 3) := by decide +kernel
theorem dX8_copyRow_26 : decode cX8_copyRow 26 = .ok (.return_, 1) := by decide +kernel
set_option maxRecDepth 20000 in
theorem ggX9_init_X9_r : GoodIn wsX9_init wsX9_r := goodIn_r _ [20] (by decide +kernel) (by decide +kernel)
set_option maxRecDepth 20000 in
theorem gX9_init_X9_r : GoodIn wsX9_init (va_wsS RX9 42 yX9_r wsX9_r) := goodIn_app (goodIn_of _ (by decide +kernel)) ggX9_init_X9_r
theorem dX9_init_0 : decode cX9_init 0 = .ok (.aload_n 0, 1) := by decide +kernel
theorem dX9_init_1 : decode cX9_init 1 = .ok (.invokespecial 1, 3) := by decide +kernel
theorem dX9_init_4 : decode cX9_init 4 = .ok (.aload_n 0, 1) := by decide +kernel
theorem dX9_init_5 : decode cX9_init 5 = .ok (.sipush 190, 3) := by decide +kernel
theorem dX9_init_8 : decode cX9_init 8 = .ok (.newarray .int, 2) := by decide +kernel
theorem dX9_init_10 : decode cX9_init 10 = .ok (.putfield 7, 3) := by decide +kernel
theorem dX9_init_13 : decode cX9_init 13 = .ok (.aload_n 0, 1) := by decide +kernel
theorem dX9_init_14 : decode cX9_init 14 = .ok (.sipush 190, 3) := by decide +kernel
theorem dX9_init_17 : decode cX9_init 17 = .ok (.newarray .int, 2) := by decide +kernel
theorem dX9_init_19 : decode cX9_init 19 = .ok (.putfield 13, 3) := by decide +kernel
theorem dX9_init_22 : decode cX9_init 22 = .ok (.aload_n 0, 1) := by decide +kernel
theorem dX9_init_23 : decode cX9_init 23 = .ok (.sipush 190, 3) := by decide +kernel
theorem dX9_init_26 : decode cX9_init 26 = .ok (.newarray .int, 2) := by decide +kernel
theorem dX9_init_28 : decode cX9_init 28 = .ok (.putfield 16, 3) := by decide +kernel
theorem dX9_init_31 : decode cX9_init 31 = .ok (.aload_n 0, 1) := by decide +kernel
theorem dX9_init_32 : decode cX9_init 32 = .ok (.sipush 760, 3) := by decide +kernel
theorem dX9_init_35 : decode cX9_init 35 = .ok (.newarray .int, 2) := by decide +kernel
theorem dX9_init_37 : decode cX9_init 37 = .ok (.putfield 19, 3) := by decide +kernel
theorem dX9_init_40 : decode cX9_init 40 = .ok (.aload_n 0, 1) := by decide +kernel
theorem dX9_init_41 : decode cX9_init 41 = .ok (.sipush 190, 3) := by decide +kernel
theorem dX9_init_44 : decode cX9_init 44 = .ok (.newarray .int, 2) := by decide +kernel
theorem dX9_init_46 : decode cX9_init 46 = .ok (.putfield 22, 3) := by decide +kernel
theorem dX9_init_49 : decode cX9_init 49 = .ok (.aload_n 0, 1) := by decide +kernel
theorem dX9_init_50 : decode cX9_init 50 = .ok (.bipush 6, 2) := by decide +kernel
theorem dX9_init_52 : decode cX9_init 52 = .ok (.newarray .int, 2) := by decide +kernel
theorem dX9_init_54 : decode cX9_init 54 = .ok (.putfield 25, 3) := by decide +kernel
theorem dX9_init_57 : decode cX9_init 57 = .ok (.aload_n 0, 1) := by decide +kernel
theorem dX9_init_58 : decode cX9_init 58 = .ok (.iconst 5, 1) := by decide +kernel
theorem dX9_init_59 : decode cX9_init 59 = .ok (.newarray .int, 2) := by decide +kernel
theorem dX9_init_61 : decode cX9_init 61 = .ok (.putfield 28, 3) := by decide +kernel
theorem dX9_init_64 : decode cX9_init 64 = .ok (.aload_n 0, 1) := by decide +kernel
theorem dX9_init_65 : decode cX9_init 65 = .ok (.iconst 5, 1) := by decide +kernel
theorem dX9_init_66 : decode cX9_init 66 = .ok (.newarray .boolean, 2) := by decide +kernel
theorem dX9_init_68 : decode cX9_init 68 = .ok (.putfield 31, 3) := by decide +kernel
theorem dX9_init_71 : decode cX9_init 71 = .ok (.aload_n 0, 1) := by decide +kernel
theorem dX9_init_72 : decode cX9_init 72 = .ok (.bipush 82, 2) := by decide +kernel
theorem dX9_init_74 : decode cX9_init 74 = .ok (.newarray .int, 2) := by decide +kernel
theorem dX9_init_76 : decode cX9_init 76 = .ok (.putfield 35, 3) := by decide +kernel
theorem dX9_init_79 : decode cX9_init 79 = .ok (.aload_n 0, 1) := by decide +kernel
theorem dX9_init_80 : decode cX9_init 80 = .ok (.bipush 80, 2) := by decide +kernel
theorem dX9_init_82 : decode cX9_init 82 = .ok (.newarray .char, 2) := by decide +kernel
theorem dX9_init_84 : decode cX9_init 84 = .ok (.putfield 38, 3) := by decide +kernel
theorem dX9_init_87 : decode cX9_init 87 = .ok (.aload_n 0, 1) := by decide +kernel
theorem dX9_init_88 : decode cX9_init 88 = .ok (.getfield 7, 3) := by decide +kernel
theorem dX9_init_91 : decode cX9_init 91 = .ok (.iconst 0, 1) := by decide +kernel
theorem dX9_init_92 : decode cX9_init 92 = .ok (.bipush 6, 2) := by decide +kernel
theorem dX9_init_94 : decode cX9_init 94 = .ok (.iastore, 1) := by decide +kernel
theorem dX9_init_95 : decode cX9_init 95 = .ok (.aload_n 0, 1) := by decide +kernel
theorem dX9_init_96 : decode cX9_init 96 = .ok (.getfield 7, 3) := by decide +kernel
theorem dX9_init_99 : decode cX9_init 99 = .ok (.iconst 1, 1) := by decide +kernel
theorem dX9_init_100 : decode cX9_init 100 = .ok (.iconst 5, 1) := by decide +kernel
theorem dX9_init_101 : decode cX9_init 101 = .ok (.iastore, 1) := by decide +kernel
theorem dX9_init_102 : decode cX9_init 102 = .ok (.aload_n 0, 1) := by decide +kernel
theorem dX9_init_103 : decode cX9_init 103 = .ok (.getfield 7, 3) := by decide +kernel
theorem dX9_init_106 : decode cX9_init 106 = .ok (.iconst 2, 1) := by decide +kernel
theorem dX9_init_107 : decode cX9_init 107 = .ok (.iconst 4, 1) := by decide +kernel
theorem dX9_init_108 : decode cX9_init 108 = .ok (.iastore, 1) := by decide +kernel
theorem dX9_init_109 : decode cX9_init 109 = .ok (.aload_n 0, 1) := by decide +kernel
theorem dX9_init_110 : decode cX9_init 110 = .ok (.getfield 7, 3) := by decide +kernel
theorem dX9_init_113 : decode cX9_init 113 = .ok (.iconst 3, 1) := by decide +kernel
theorem dX9_init_114 : decode cX9_init 114 = .ok (.iconst 2, 1) := by decide +kernel
theorem dX9_init_115 : decode cX9_init 115 = .ok (.iastore, 1) := by decide +kernel
theorem dX9_init_116 : decode cX9_init 116 = .ok (.iconst 0, 1) := by decide +kernel
theorem dX9_init_117 : decode cX9_init 117 = .ok (.istore_n 1, 1) := by decide +kernel
theorem dX9_init_118 : decode cX9_init 118 = .ok (.iload_n 1, 1) := by decide +kernel
theorem dX9_init_119 : decode cX9_init 119 = .ok (.bipush 6, 2) := by decide +kernel
theorem dX9_init_121 : decode cX9_init 121 = .ok (.if_icmp .ge 23, 3) := by decide +kernel
theorem dX9_init_124 : decode cX9_init 124 = .ok (.aload_n 0, 1) := by decide +kernel
theorem dX9_init_125 : decode cX9_init 125 = .ok (.getfield 7, 3) := by decide +kernel
theorem dX9_init_128 : decode cX9_init 128 = .ok (.iload_n 1, 1) := by decide +kernel
theorem dX9_init_129 : decode cX9_init 129 = .ok (.invokestatic 42, 3) := by decide +kernel
theorem dX9_init_132 : decode cX9_init 132 = .ok (.bipush 6, 2) := by decide +kernel
theorem dX9_init_134 : decode cX9_init 134 = .ok (.iadd, 1) := by decide +kernel
theorem dX9_init_135 : decode cX9_init 135 = .ok (.bipush 15, 2) := by decide +kernel
theorem dX9_init_137 : decode cX9_init 137 = .ok (.iastore, 1) := by decide +kernel
theorem dX9_init_138 : decode cX9_init 138 = .ok (.iinc 1 1, 3) := by decide +kernel
theorem dX9_init_141 : decode cX9_init 141 = .ok (.goto (-23), 3) := by decide +kernel
theorem dX9_init_144 : decode cX9_init 144 = .ok (.return_, 1) := by decide +kernel
theorem dX9_in_0 : decode cX9_in 0 = .ok (.iload_n 0, 1) := by decide +kernel
theorem dX9_in_1 : decode cX9_in 1 = .ok (.iload_n 1, 1) := by decide +kernel
theorem dX9_in_2 : decode cX9_in 2 = .ok (.if_icmp .lt 12, 3) := by decide +kernel
theorem dX9_in_5 : decode cX9_in 5 = .ok (.iload_n 0, 1) := by decide +kernel
theorem dX9_in_6 : decode cX9_in 6 = .ok (.iload_n 2, 1) := by decide +kernel
theorem dX9_in_7 : decode cX9_in 7 = .ok (.if_icmp .gt 7, 3) := by decide +kernel
theorem dX9_in_10 : decode cX9_in 10 = .ok (.iconst 1, 1) := by decide +kernel
theorem dX9_in_11 : decode cX9_in 11 = .ok (.goto 4, 3) := by decide +kernel
theorem dX9_in_14 : decode cX9_in 14 = .ok (.iconst 0, 1) := by decide +kernel
theorem dX9_in_15 : decode cX9_in 15 = .ok (.ireturn, 1) := by decide +kernel
theorem dX9_n_0 : decode cX9_n 0 = .ok (.bipush 10, 2) := by decide +kernel
theorem dX9_n_2 : decode cX9_n 2 = .ok (.bipush 14, 2) := by decide +kernel
theorem dX9_n_4 : decode cX9_n 4 = .ok (.iload_n 0, 1) := by decide +kernel
theorem dX9_n_5 : decode cX9_n 5 = .ok (.imul, 1) := by decide +kernel
theorem dX9_n_6 : decode cX9_n 6 = .ok (.iadd, 1) := by decide +kernel
theorem dX9_n_7 : decode cX9_n 7 = .ok (.ireturn, 1) := by decide +kernel
theorem dX9_m_0 : decode cX9_m 0 = .ok (.bipush 80, 2) := by decide +kernel
theorem dX9_m_2 : decode cX9_m 2 = .ok (.iconst 5, 1) := by decide +kernel
theorem dX9_m_3 : decode cX9_m 3 = .ok (.iload_n 0, 1) := by decide +kernel
theorem dX9_m_4 : decode cX9_m 4 = .ok (.imul, 1) := by decide +kernel
theorem dX9_m_5 : decode cX9_m 5 = .ok (.iadd, 1) := by decide +kernel
theorem dX9_m_6 : decode cX9_m 6 = .ok (.ireturn, 1) := by decide +kernel
theorem dX9_l_0 : decode cX9_l 0 = .ok (.bipush 100, 2) := by decide +kernel
theorem dX9_l_2 : decode cX9_l 2 = .ok (.bipush 6, 2) := by decide +kernel
theorem dX9_l_4 : decode cX9_l 4 = .ok (.iload_n 0, 1) := by decide +kernel
theorem dX9_l_5 : decode cX9_l 5 = .ok (.imul, 1) := by decide +kernel
theorem dX9_l_6 : decode cX9_l 6 = .ok (.iadd, 1) := by decide +kernel
theorem dX9_l_7 : decode cX9_l 7 = .ok (.ireturn, 1) := by decide +kernel
theorem dX9_r_0 : decode cX9_r 0 = .ok (.sipush 148, 3) := by decide +kernel
theorem dX9_r_3 : decode cX9_r 3 = .ok (.bipush 7, 2) := by decide +kernel
theorem dX9_r_5 : decode cX9_r 5 = .ok (.iload_n 0, 1) := by decide +kernel
theorem dX9_r_6 : decode cX9_r 6 = .ok (.imul, 1) := by decide +kernel
theorem dX9_r_7 : decode cX9_r 7 = .ok (.iadd, 1) := by decide +kernel
theorem dX9_r_8 : decode cX9_r 8 = .ok (.ireturn, 1) := by decide +kernel
set_option maxRecDepth 20000 in
theorem ggX9_isWire_X9_in : GoodIn wsX9_isWire wsX9_in := goodIn_r _ [4] (by decide +kernel) (by decide +kernel)
set_option maxRecDepth 20000 in
theorem gX9_isWire_X9_in : GoodIn wsX9_isWire (va_wsS RX9 46 yX9_in wsX9_in) := goodIn_app (goodIn_of _ (by decide +kernel)) ggX9_isWire_X9_in
theorem dX9_isWire_0 : decode cX9_isWire 0 = .ok (.iload_n 0, 1) := by decide +kernel
theorem dX9_isWire_1 : decode cX9_isWire 1 = .ok (.iconst 0, 1) := by decide +kernel
theorem dX9_isWire_2 : decode cX9_isWire 2 = .ok (.iconst 5, 1) := by decide +kernel
theorem dX9_isWire_3 : decode cX9_isWire 3 = .ok (.invokestatic 46, 3) := by decide +kernel
theorem dX9_isWire_6 : decode cX9_isWire 6 = .ok (.ireturn, 1) := by decide +kernel
set_option maxRecDepth 20000 in
theorem ggX9_isSender_X9_in : GoodIn wsX9_isSender wsX9_in := goodIn_r _ [5] (by decide +kernel) (by decide +kernel)
set_option maxRecDepth 20000 in
theorem gX9_isSender_X9_in : GoodIn wsX9_isSender (va_wsS RX9 46 yX9_in wsX9_in) := goodIn_app (goodIn_of _ (by decide +kernel)) ggX9_isSender_X9_in
set_option maxRecDepth 20000 in
theorem ggX9_isSender_X9_n : GoodIn wsX9_isSender wsX9_n := goodIn_r _ [8] (by decide +kernel) (by decide +kernel)
set_option maxRecDepth 20000 in
theorem gX9_isSender_X9_n : GoodIn wsX9_isSender (va_wsS RX9 50 yX9_n wsX9_n) := goodIn_app (goodIn_of _ (by decide +kernel)) ggX9_isSender_X9_n
theorem dX9_isSender_0 : decode cX9_isSender 0 = .ok (.iload_n 1, 1) := by decide +kernel
theorem dX9_isSender_1 : decode cX9_isSender 1 = .ok (.iconst 0, 1) := by decide +kernel
theorem dX9_isSender_2 : decode cX9_isSender 2 = .ok (.iconst 4, 1) := by decide +kernel
theorem dX9_isSender_3 : decode cX9_isSender 3 = .ok (.invokestatic 46, 3) := by decide +kernel
theorem dX9_isSender_6 : decode cX9_isSender 6 = .ok (.ifCond .eq 20, 3) := by decide +kernel
theorem dX9_isSender_9 : decode cX9_isSender 9 = .ok (.aload_n 0, 1) := by decide +kernel
theorem dX9_isSender_10 : decode cX9_isSender 10 = .ok (.getfield 7, 3) := by decide +kernel
theorem dX9_isSender_13 : decode cX9_isSender 13 = .ok (.iload_n 1, 1) := by decide +kernel
theorem dX9_isSender_14 : decode cX9_isSender 14 = .ok (.invokestatic 50, 3) := by decide +kernel
theorem dX9_isSender_17 : decode cX9_isSender 17 = .ok (.iaload, 1) := by decide +kernel
theorem dX9_isSender_18 : decode cX9_isSender 18 = .ok (.iconst 1, 1) := by decide +kernel
theorem dX9_isSender_19 : decode cX9_isSender 19 = .ok (.if_icmp .ne 7, 3) := by decide +kernel
theorem dX9_isSender_22 : decode cX9_isSender 22 = .ok (.iconst 1, 1) := by decide +kernel
theorem dX9_isSender_23 : decode cX9_isSender 23 = .ok (.goto 4, 3) := by decide +kernel
theorem dX9_isSender_26 : decode cX9_isSender 26 = .ok (.iconst 0, 1) := by decide +kernel
theorem dX9_isSender_27 : decode cX9_isSender 27 = .ok (.ireturn, 1) := by decide +kernel
set_option maxRecDepth 20000 in
theorem ggX9_isMachine_X9_in : GoodIn wsX9_isMachine wsX9_in := goodIn_r _ [5] (by decide +kernel) (by decide +kernel)
set_option maxRecDepth 20000 in
theorem gX9_isMachine_X9_in : GoodIn wsX9_isMachine (va_wsS RX9 46 yX9_in wsX9_in) := goodIn_app (goodIn_of _ (by decide +kernel)) ggX9_isMachine_X9_in
set_option maxRecDepth 20000 in
theorem ggX9_isMachine_X9_m : GoodIn wsX9_isMachine wsX9_m := goodIn_r _ [8] (by decide +kernel) (by decide +kernel)
set_option maxRecDepth 20000 in
theorem gX9_isMachine_X9_m : GoodIn wsX9_isMachine (va_wsS RX9 53 yX9_m wsX9_m) := goodIn_app (goodIn_of _ (by decide +kernel)) ggX9_isMachine_X9_m
theorem dX9_isMachine_0 : decode cX9_isMachine 0 = .ok (.iload_n 1, 1) := by decide +kernel
theorem dX9_isMachine_1 : decode cX9_isMachine 1 = .ok (.iconst 0, 1) := by decide +kernel
theorem dX9_isMachine_2 : decode cX9_isMachine 2 = .ok (.iconst 3, 1) := by decide +kernel
theorem dX9_isMachine_3 : decode cX9_isMachine 3 = .ok (.invokestatic 46, 3) := by decide +kernel
theorem dX9_isMachine_6 : decode cX9_isMachine 6 = .ok (.ifCond .eq 20, 3) := by decide +kernel
theorem dX9_isMachine_9 : decode cX9_isMachine 9 = .ok (.aload_n 0, 1) := by decide +kernel
theorem dX9_isMachine_10 : decode cX9_isMachine 10 = .ok (.getfield 7, 3) := by decide +kernel
theorem dX9_isMachine_13 : decode cX9_isMachine 13 = .ok (.iload_n 1, 1) := by decide +kernel
theorem dX9_isMachine_14 : decode cX9_isMachine 14 = .ok (.invokestatic 53, 3) := by decide +kernel
theorem dX9_isMachine_17 : decode cX9_isMachine 17 = .ok (.iaload, 1) := by decide +kernel
theorem dX9_isMachine_18 : decode cX9_isMachine 18 = .ok (.iconst 1, 1) := by decide +kernel
theorem dX9_isMachine_19 : decode cX9_isMachine 19 = .ok (.if_icmp .ne 7, 3) := by decide +kernel
theorem dX9_isMachine_22 : decode cX9_isMachine 22 = .ok (.iconst 1, 1) := by decide +kernel
theorem dX9_isMachine_23 : decode cX9_isMachine 23 = .ok (.goto 4, 3) := by decide +kernel
theorem dX9_isMachine_26 : decode cX9_isMachine 26 = .ok (.iconst 0, 1) := by decide +kernel
theorem dX9_isMachine_27 : decode cX9_isMachine 27 = .ok (.ireturn, 1) := by decide +kernel
set_option maxRecDepth 20000 in
theorem ggX9_isLamp_X9_in : GoodIn wsX9_isLamp wsX9_in := goodIn_r _ [5] (by decide +kernel) (by decide +kernel)
set_option maxRecDepth 20000 in
theorem gX9_isLamp_X9_in : GoodIn wsX9_isLamp (va_wsS RX9 46 yX9_in wsX9_in) := goodIn_app (goodIn_of _ (by decide +kernel)) ggX9_isLamp_X9_in
set_option maxRecDepth 20000 in
theorem ggX9_isLamp_X9_l : GoodIn wsX9_isLamp wsX9_l := goodIn_r _ [8] (by decide +kernel) (by decide +kernel)
set_option maxRecDepth 20000 in
theorem gX9_isLamp_X9_l : GoodIn wsX9_isLamp (va_wsS RX9 56 yX9_l wsX9_l) := goodIn_app (goodIn_of _ (by decide +kernel)) ggX9_isLamp_X9_l
theorem dX9_isLamp_0 : decode cX9_isLamp 0 = .ok (.iload_n 1, 1) := by decide +kernel
theorem dX9_isLamp_1 : decode cX9_isLamp 1 = .ok (.iconst 0, 1) := by decide +kernel
theorem dX9_isLamp_2 : decode cX9_isLamp 2 = .ok (.bipush 7, 2) := by decide +kernel
theorem dX9_isLamp_4 : decode cX9_isLamp 4 = .ok (.invokestatic 46, 3) := by decide +kernel
theorem dX9_isLamp_7 : decode cX9_isLamp 7 = .ok (.ifCond .eq 20, 3) := by decide +kernel
theorem dX9_isLamp_10 : decode cX9_isLamp 10 = .ok (.aload_n 0, 1) := by decide +kernel
theorem dX9_isLamp_11 : decode cX9_isLamp 11 = .ok (.getfield 7, 3) := by decide +kernel
theorem dX9_isLamp_14 : decode cX9_isLamp 14 = .ok (.iload_n 1, 1) := by decide +kernel
theorem dX9_isLamp_15 : decode cX9_isLamp 15 = .ok (.invokestatic 56, 3) := by decide +kernel
theorem dX9_isLamp_18 : decode cX9_isLamp 18 = .ok (.iaload, 1) := by decide +kernel
theorem dX9_isLamp_19 : decode cX9_isLamp 19 = .ok (.iconst 1, 1) := by decide +kernel
theorem dX9_isLamp_20 : decode cX9_isLamp 20 = .ok (.if_icmp .ne 7, 3) := by decide +kernel
theorem dX9_isLamp_23 : decode cX9_isLamp 23 = .ok (.iconst 1, 1) := by decide +kernel
theorem dX9_isLamp_24 : decode cX9_isLamp 24 = .ok (.goto 4, 3) := by decide +kernel
theorem dX9_isLamp_27 : decode cX9_isLamp 27 = .ok (.iconst 0, 1) := by decide +kernel
theorem dX9_isLamp_28 : decode cX9_isLamp 28 = .ok (.ireturn, 1) := by decide +kernel
theorem dX9_hold_0 : decode cX9_hold 0 = .ok (.iconst 0, 1) := by decide +kernel
theorem dX9_hold_1 : decode cX9_hold 1 = .ok (.istore_n 1, 1) := by decide +kernel
theorem dX9_hold_2 : decode cX9_hold 2 = .ok (.iload_n 1, 1) := by decide +kernel
theorem dX9_hold_3 : decode cX9_hold 3 = .ok (.sipush 190, 3) := by decide +kernel
theorem dX9_hold_6 : decode cX9_hold 6 = .ok (.if_icmp .ge 21, 3) := by decide +kernel
theorem dX9_hold_9 : decode cX9_hold 9 = .ok (.aload_n 0, 1) := by decide +kernel
theorem dX9_hold_10 : decode cX9_hold 10 = .ok (.getfield 13, 3) := by decide +kernel
theorem dX9_hold_13 : decode cX9_hold 13 = .ok (.iload_n 1, 1) := by decide +kernel
theorem dX9_hold_14 : decode cX9_hold 14 = .ok (.aload_n 0, 1) := by decide +kernel
theorem dX9_hold_15 : decode cX9_hold 15 = .ok (.getfield 7, 3) := by decide +kernel
theorem dX9_hold_18 : decode cX9_hold 18 = .ok (.iload_n 1, 1) := by decide +kernel
theorem dX9_hold_19 : decode cX9_hold 19 = .ok (.iaload, 1) := by decide +kernel
theorem dX9_hold_20 : decode cX9_hold 20 = .ok (.iastore, 1) := by decide +kernel
theorem dX9_hold_21 : decode cX9_hold 21 = .ok (.iinc 1 1, 3) := by decide +kernel
theorem dX9_hold_24 : decode cX9_hold 24 = .ok (.goto (-22), 3) := by decide +kernel
theorem dX9_hold_27 : decode cX9_hold 27 = .ok (.return_, 1) := by decide +kernel
theorem dX9_recorded_0 : decode cX9_recorded 0 = .ok (.aload_n 0, 1) := by decide +kernel
theorem dX9_recorded_1 : decode cX9_recorded 1 = .ok (.getfield 59, 3) := by decide +kernel
theorem dX9_recorded_4 : decode cX9_recorded 4 = .ok (.iconst 4, 1) := by decide +kernel
theorem dX9_recorded_5 : decode cX9_recorded 5 = .ok (.if_icmp .ne 44, 3) := by decide +kernel
theorem dX9_recorded_8 : decode cX9_recorded 8 = .ok (.iconst 0, 1) := by decide +kernel
theorem dX9_recorded_9 : decode cX9_recorded 9 = .ok (.istore_n 2, 1) := by decide +kernel
theorem dX9_recorded_10 : decode cX9_recorded 10 = .ok (.iload_n 2, 1) := by decide +kernel
theorem dX9_recorded_11 : decode cX9_recorded 11 = .ok (.sipush 570, 3) := by decide +kernel
theorem dX9_recorded_14 : decode cX9_recorded 14 = .ok (.if_icmp .ge 25, 3) := by decide +kernel
theorem dX9_recorded_17 : decode cX9_recorded 17 = .ok (.aload_n 0, 1) := by decide +kernel
theorem dX9_recorded_18 : decode cX9_recorded 18 = .ok (.getfield 19, 3) := by decide +kernel
theorem dX9_recorded_21 : decode cX9_recorded 21 = .ok (.iload_n 2, 1) := by decide +kernel
theorem dX9_recorded_22 : decode cX9_recorded 22 = .ok (.aload_n 0, 1) := by decide +kernel
theorem dX9_recorded_23 : decode cX9_recorded 23 = .ok (.getfield 19, 3) := by decide +kernel
theorem dX9_recorded_26 : decode cX9_recorded 26 = .ok (.sipush 190, 3) := by decide +kernel
theorem dX9_recorded_29 : decode cX9_recorded 29 = .ok (.iload_n 2, 1) := by decide +kernel
theorem dX9_recorded_30 : decode cX9_recorded 30 = .ok (.iadd, 1) := by decide +kernel
theorem dX9_recorded_31 : decode cX9_recorded 31 = .ok (.iaload, 1) := by decide +kernel
theorem dX9_recorded_32 : decode cX9_recorded 32 = .ok (.iastore, 1) := by decide +kernel
theorem dX9_recorded_33 : decode cX9_recorded 33 = .ok (.iinc 2 1, 3) := by decide +kernel
theorem dX9_recorded_36 : decode cX9_recorded 36 = .ok (.goto (-26), 3) := by decide +kernel
theorem dX9_recorded_39 : decode cX9_recorded 39 = .ok (.aload_n 0, 1) := by decide +kernel
theorem dX9_recorded_40 : decode cX9_recorded 40 = .ok (.dup, 1) := by decide +kernel
theorem dX9_recorded_41 : decode cX9_recorded 41 = .ok (.getfield 59, 3) := by decide +kernel
theorem dX9_recorded_44 : decode cX9_recorded 44 = .ok (.iconst 1, 1) := by decide +kernel
theorem dX9_recorded_45 : decode cX9_recorded 45 = .ok (.isub, 1) := by decide +kernel
theorem dX9_recorded_46 : decode cX9_recorded 46 = .ok (.putfield 59, 3) := by decide +kernel
theorem dX9_recorded_49 : decode cX9_recorded 49 = .ok (.iconst 0, 1) := by decide +kernel
theorem dX9_recorded_50 : decode cX9_recorded 50 = .ok (.istore_n 2, 1) := by decide +kernel
theorem dX9_recorded_51 : decode cX9_recorded 51 = .ok (.iload_n 2, 1) := by decide +kernel
theorem dX9_recorded_52 : decode cX9_recorded 52 = .ok (.sipush 190, 3) := by decide +kernel
theorem dX9_recorded_55 : decode cX9_recorded 55 = .ok (.if_icmp .ge 30, 3) := by decide +kernel
theorem dX9_recorded_58 : decode cX9_recorded 58 = .ok (.aload_n 0, 1) := by decide +kernel
theorem dX9_recorded_59 : decode cX9_recorded 59 = .ok (.getfield 19, 3) := by decide +kernel
theorem dX9_recorded_62 : decode cX9_recorded 62 = .ok (.sipush 190, 3) := by decide +kernel
theorem dX9_recorded_65 : decode cX9_recorded 65 = .ok (.aload_n 0, 1) := by decide +kernel
theorem dX9_recorded_66 : decode cX9_recorded 66 = .ok (.getfield 59, 3) := by decide +kernel
theorem dX9_recorded_69 : decode cX9_recorded 69 = .ok (.imul, 1) := by decide +kernel
theorem dX9_recorded_70 : decode cX9_recorded 70 = .ok (.iload_n 2, 1) := by decide +kernel
theorem dX9_recorded_71 : decode cX9_recorded 71 = .ok (.iadd, 1) := by decide +kernel
theorem dX9_recorded_72 : decode cX9_recorded 72 = .ok (.aload_n 0, 1) := by decide +kernel
theorem dX9_recorded_73 : decode cX9_recorded 73 = .ok (.getfield 13, 3) := by decide +kernel
theorem dX9_recorded_76 : decode cX9_recorded 76 = .ok (.iload_n 2, 1) := by decide +kernel
theorem dX9_recorded_77 : decode cX9_recorded 77 = .ok (.iaload, 1) := by decide +kernel
theorem dX9_recorded_78 : decode cX9_recorded 78 = .ok (.iastore, 1) := by decide +kernel
theorem dX9_recorded_79 : decode cX9_recorded 79 = .ok (.iinc 2 1, 3) := by decide +kernel
theorem dX9_recorded_82 : decode cX9_recorded 82 = .ok (.goto (-31), 3) := by decide +kernel
theorem dX9_recorded_85 : decode cX9_recorded 85 = .ok (.aload_n 0, 1) := by decide +kernel
theorem dX9_recorded_86 : decode cX9_recorded 86 = .ok (.dup, 1) := by decide +kernel
theorem dX9_recorded_87 : decode cX9_recorded 87 = .ok (.getfield 59, 3) := by decide +kernel
theorem dX9_recorded_90 : decode cX9_recorded 90 = .ok (.iconst 1, 1) := by decide +kernel
theorem dX9_recorded_91 : decode cX9_recorded 91 = .ok (.iadd, 1) := by decide +kernel
theorem dX9_recorded_92 : decode cX9_recorded 92 = .ok (.putfield 59, 3) := by decide +kernel
theorem dX9_recorded_95 : decode cX9_recorded 95 = .ok (.iload_n 1, 1) := by decide +kernel
theorem dX9_recorded_96 : decode cX9_recorded 96 = .ok (.ireturn, 1) := by decide +kernel
theorem dX9_keepTrial_0 : decode cX9_keepTrial 0 = .ok (.iconst 0, 1) := by decide +kernel
theorem dX9_keepTrial_1 : decode cX9_keepTrial 1 = .ok (.istore_n 1, 1) := by decide +kernel
theorem dX9_keepTrial_2 : decode cX9_keepTrial 2 = .ok (.iload_n 1, 1) := by decide +kernel
theorem dX9_keepTrial_3 : decode cX9_keepTrial 3 = .ok (.sipush 190, 3) := by decide +kernel
theorem dX9_keepTrial_6 : decode cX9_keepTrial 6 = .ok (.if_icmp .ge 21, 3) := by decide +kernel
theorem dX9_keepTrial_9 : decode cX9_keepTrial 9 = .ok (.aload_n 0, 1) := by decide +kernel
theorem dX9_keepTrial_10 : decode cX9_keepTrial 10 = .ok (.getfield 16, 3) := by decide +kernel
theorem dX9_keepTrial_13 : decode cX9_keepTrial 13 = .ok (.iload_n 1, 1) := by decide +kernel
theorem dX9_keepTrial_14 : decode cX9_keepTrial 14 = .ok (.aload_n 0, 1) := by decide +kernel
theorem dX9_keepTrial_15 : decode cX9_keepTrial 15 = .ok (.getfield 7, 3) := by decide +kernel
theorem dX9_keepTrial_18 : decode cX9_keepTrial 18 = .ok (.iload_n 1, 1) := by decide +kernel
theorem dX9_keepTrial_19 : decode cX9_keepTrial 19 = .ok (.iaload, 1) := by decide +kernel
theorem dX9_keepTrial_20 : decode cX9_keepTrial 20 = .ok (.iastore, 1) := by decide +kernel
theorem dX9_keepTrial_21 : decode cX9_keepTrial 21 = .ok (.iinc 1 1, 3) := by decide +kernel
theorem dX9_keepTrial_24 : decode cX9_keepTrial 24 = .ok (.goto (-22), 3) := by decide +kernel
theorem dX9_keepTrial_27 : decode cX9_keepTrial 27 = .ok (.return_, 1) := by decide +kernel
theorem dX9_putBack_0 : decode cX9_putBack 0 = .ok (.iconst 0, 1) := by decide +kernel
theorem dX9_putBack_1 : decode cX9_putBack 1 = .ok (.istore_n 1, 1) := by decide +kernel
theorem dX9_putBack_2 : decode cX9_putBack 2 = .ok (.iload_n 1, 1) := by decide +kernel
theorem dX9_putBack_3 : decode cX9_putBack 3 = .ok (.sipush 190, 3) := by decide +kernel
theorem dX9_putBack_6 : decode cX9_putBack 6 = .ok (.if_icmp .ge 21, 3) := by decide +kernel
theorem dX9_putBack_9 : decode cX9_putBack 9 = .ok (.aload_n 0, 1) := by decide +kernel
theorem dX9_putBack_10 : decode cX9_putBack 10 = .ok (.getfield 7, 3) := by decide +kernel
theorem dX9_putBack_13 : decode cX9_putBack 13 = .ok (.iload_n 1, 1) := by decide +kernel
theorem dX9_putBack_14 : decode cX9_putBack 14 = .ok (.aload_n 0, 1) := by decide +kernel
theorem dX9_putBack_15 : decode cX9_putBack 15 = .ok (.getfield 16, 3) := by decide +kernel
theorem dX9_putBack_18 : decode cX9_putBack 18 = .ok (.iload_n 1, 1) := by decide +kernel
theorem dX9_putBack_19 : decode cX9_putBack 19 = .ok (.iaload, 1) := by decide +kernel
theorem dX9_putBack_20 : decode cX9_putBack 20 = .ok (.iastore, 1) := by decide +kernel
theorem dX9_putBack_21 : decode cX9_putBack 21 = .ok (.iinc 1 1, 3) := by decide +kernel
theorem dX9_putBack_24 : decode cX9_putBack 24 = .ok (.goto (-22), 3) := by decide +kernel
theorem dX9_putBack_27 : decode cX9_putBack 27 = .ok (.return_, 1) := by decide +kernel
theorem dX9_frameBit_0 : decode cX9_frameBit 0 = .ok (.iload_n 1, 1) := by decide +kernel
theorem dX9_frameBit_1 : decode cX9_frameBit 1 = .ok (.iconst 4, 1) := by decide +kernel
theorem dX9_frameBit_2 : decode cX9_frameBit 2 = .ok (.if_icmp .ge 14, 3) := by decide +kernel
theorem dX9_frameBit_5 : decode cX9_frameBit 5 = .ok (.iload_n 1, 1) := by decide +kernel
theorem dX9_frameBit_6 : decode cX9_frameBit 6 = .ok (.iconst 3, 1) := by decide +kernel
theorem dX9_frameBit_7 : decode cX9_frameBit 7 = .ok (.if_icmp .ge 7, 3) := by decide +kernel
theorem dX9_frameBit_10 : decode cX9_frameBit 10 = .ok (.iconst 1, 1) := by decide +kernel
theorem dX9_frameBit_11 : decode cX9_frameBit 11 = .ok (.goto 4, 3) := by decide +kernel
theorem dX9_frameBit_14 : decode cX9_frameBit 14 = .ok (.iconst 0, 1) := by decide +kernel
theorem dX9_frameBit_15 : decode cX9_frameBit 15 = .ok (.ireturn, 1) := by decide +kernel
theorem dX9_frameBit_16 : decode cX9_frameBit 16 = .ok (.iload_n 0, 1) := by decide +kernel
theorem dX9_frameBit_17 : decode cX9_frameBit 17 = .ok (.iconst 4, 1) := by decide +kernel
theorem dX9_frameBit_18 : decode cX9_frameBit 18 = .ok (.iload_n 1, 1) := by decide +kernel
theorem dX9_frameBit_19 : decode cX9_frameBit 19 = .ok (.iconst 4, 1) := by decide +kernel
theorem dX9_frameBit_20 : decode cX9_frameBit 20 = .ok (.isub, 1) := by decide +kernel
theorem dX9_frameBit_21 : decode cX9_frameBit 21 = .ok (.iconst 2, 1) := by decide +kernel
theorem dX9_frameBit_22 : decode cX9_frameBit 22 = .ok (.idiv, 1) := by decide +kernel
theorem dX9_frameBit_23 : decode cX9_frameBit 23 = .ok (.isub, 1) := by decide +kernel
theorem dX9_frameBit_24 : decode cX9_frameBit 24 = .ok (.ishr, 1) := by decide +kernel
theorem dX9_frameBit_25 : decode cX9_frameBit 25 = .ok (.iconst 1, 1) := by decide +kernel
theorem dX9_frameBit_26 : decode cX9_frameBit 26 = .ok (.iand, 1) := by decide +kernel
theorem dX9_frameBit_27 : decode cX9_frameBit 27 = .ok (.istore_n 2, 1) := by decide +kernel
theorem dX9_frameBit_28 : decode cX9_frameBit 28 = .ok (.iload_n 1, 1) := by decide +kernel
theorem dX9_frameBit_29 : decode cX9_frameBit 29 = .ok (.iconst 2, 1) := by decide +kernel
theorem dX9_frameBit_30 : decode cX9_frameBit 30 = .ok (.irem, 1) := by decide +kernel
theorem dX9_frameBit_31 : decode cX9_frameBit 31 = .ok (.ifCond .ne 7, 3) := by decide +kernel
theorem dX9_frameBit_34 : decode cX9_frameBit 34 = .ok (.iload_n 2, 1) := by decide +kernel
theorem dX9_frameBit_35 : decode cX9_frameBit 35 = .ok (.goto 6, 3) := by decide +kernel
theorem dX9_frameBit_38 : decode cX9_frameBit 38 = .ok (.iconst 1, 1) := by decide +kernel
theorem dX9_frameBit_39 : decode cX9_frameBit 39 = .ok (.iload_n 2, 1) := by decide +kernel
theorem dX9_frameBit_40 : decode cX9_frameBit 40 = .ok (.isub, 1) := by decide +kernel
theorem dX9_frameBit_41 : decode cX9_frameBit 41 = .ok (.ireturn, 1) := by decide +kernel
theorem dX9_lossOf_0 : decode cX9_lossOf 0 = .ok (.iload_n 1, 1) := by decide +kernel
theorem dX9_lossOf_1 : decode cX9_lossOf 1 = .ok (.iconst 3, 1) := by decide +kernel
theorem dX9_lossOf_2 : decode cX9_lossOf 2 = .ok (.irem, 1) := by decide +kernel
theorem dX9_lossOf_3 : decode cX9_lossOf 3 = .ok (.iload_n 2, 1) := by decide +kernel
theorem dX9_lossOf_4 : decode cX9_lossOf 4 = .ok (.iconst 3, 1) := by decide +kernel
theorem dX9_lossOf_5 : decode cX9_lossOf 5 = .ok (.irem, 1) := by decide +kernel
theorem dX9_lossOf_6 : decode cX9_lossOf 6 = .ok (.if_icmp .ne 7, 3) := by decide +kernel
theorem dX9_lossOf_9 : decode cX9_lossOf 9 = .ok (.iconst 0, 1) := by decide +kernel
theorem dX9_lossOf_10 : decode cX9_lossOf 10 = .ok (.goto 9, 3) := by decide +kernel
theorem dX9_lossOf_13 : decode cX9_lossOf 13 = .ok (.aload_n 0, 1) := by decide +kernel
theorem dX9_lossOf_14 : decode cX9_lossOf 14 = .ok (.getfield 7, 3) := by decide +kernel
theorem dX9_lossOf_17 : decode cX9_lossOf 17 = .ok (.iconst 0, 1) := by decide +kernel
theorem dX9_lossOf_18 : decode cX9_lossOf 18 = .ok (.iaload, 1) := by decide +kernel
theorem dX9_lossOf_19 : decode cX9_lossOf 19 = .ok (.istore_n 3, 1) := by decide +kernel
theorem dX9_lossOf_20 : decode cX9_lossOf 20 = .ok (.iload_n 3, 1) := by decide +kernel
theorem dX9_lossOf_21 : decode cX9_lossOf 21 = .ok (.iload_n 1, 1) := by decide +kernel
theorem dX9_lossOf_22 : decode cX9_lossOf 22 = .ok (.iconst 3, 1) := by decide +kernel
theorem dX9_lossOf_23 : decode cX9_lossOf 23 = .ok (.idiv, 1) := by decide +kernel
theorem dX9_lossOf_24 : decode cX9_lossOf 24 = .ok (.iload_n 2, 1) := by decide +kernel
theorem dX9_lossOf_25 : decode cX9_lossOf 25 = .ok (.iconst 3, 1) := by decide +kernel
theorem dX9_lossOf_26 : decode cX9_lossOf 26 = .ok (.idiv, 1) := by decide +kernel
theorem dX9_lossOf_27 : decode cX9_lossOf 27 = .ok (.if_icmp .ne 7, 3) := by decide +kernel
theorem dX9_lossOf_30 : decode cX9_lossOf 30 = .ok (.iconst 0, 1) := by decide +kernel
theorem dX9_lossOf_31 : decode cX9_lossOf 31 = .ok (.goto 9, 3) := by decide +kernel
theorem dX9_lossOf_34 : decode cX9_lossOf 34 = .ok (.aload_n 0, 1) := by decide +kernel
theorem dX9_lossOf_35 : decode cX9_lossOf 35 = .ok (.getfield 7, 3) := by decide +kernel
theorem dX9_lossOf_38 : decode cX9_lossOf 38 = .ok (.iconst 1, 1) := by decide +kernel
theorem dX9_lossOf_39 : decode cX9_lossOf 39 = .ok (.iaload, 1) := by decide +kernel
theorem dX9_lossOf_40 : decode cX9_lossOf 40 = .ok (.iadd, 1) := by decide +kernel
theorem dX9_lossOf_41 : decode cX9_lossOf 41 = .ok (.ireturn, 1) := by decide +kernel
set_option maxRecDepth 20000 in
theorem ggX9_bitOf_X9_n : GoodIn wsX9_bitOf wsX9_n := goodIn_r _ [5] (by decide +kernel) (by decide +kernel)
set_option maxRecDepth 20000 in
theorem gX9_bitOf_X9_n : GoodIn wsX9_bitOf (va_wsS RX9 50 yX9_n wsX9_n) := goodIn_app (goodIn_of _ (by decide +kernel)) ggX9_bitOf_X9_n
set_option maxRecDepth 20000 in
theorem ggX9_bitOf_X9_frameBit : GoodIn wsX9_bitOf wsX9_frameBit := goodIn_r _ [8] (by decide +kernel) (by decide +kernel)
set_option maxRecDepth 20000 in
theorem gX9_bitOf_X9_frameBit : GoodIn wsX9_bitOf (va_wsS RX9 63 yX9_frameBit wsX9_frameBit) := goodIn_app (goodIn_of _ (by decide +kernel)) ggX9_bitOf_X9_frameBit
theorem dX9_bitOf_0 : decode cX9_bitOf 0 = .ok (.aload_n 0, 1) := by decide +kernel
theorem dX9_bitOf_1 : decode cX9_bitOf 1 = .ok (.getfield 7, 3) := by decide +kernel
theorem dX9_bitOf_4 : decode cX9_bitOf 4 = .ok (.iload_n 1, 1) := by decide +kernel
theorem dX9_bitOf_5 : decode cX9_bitOf 5 = .ok (.invokestatic 50, 3) := by decide +kernel
theorem dX9_bitOf_8 : decode cX9_bitOf 8 = .ok (.bipush 6, 2) := by decide +kernel
theorem dX9_bitOf_10 : decode cX9_bitOf 10 = .ok (.iadd, 1) := by decide +kernel
theorem dX9_bitOf_11 : decode cX9_bitOf 11 = .ok (.iaload, 1) := by decide +kernel
theorem dX9_bitOf_12 : decode cX9_bitOf 12 = .ok (.bipush 14, 2) := by decide +kernel
theorem dX9_bitOf_14 : decode cX9_bitOf 14 = .ok (.if_icmp .ge 33, 3) := by decide +kernel
theorem dX9_bitOf_17 : decode cX9_bitOf 17 = .ok (.aload_n 0, 1) := by decide +kernel
theorem dX9_bitOf_18 : decode cX9_bitOf 18 = .ok (.getfield 7, 3) := by decide +kernel
theorem dX9_bitOf_21 : decode cX9_bitOf 21 = .ok (.iload_n 1, 1) := by decide +kernel
theorem dX9_bitOf_22 : decode cX9_bitOf 22 = .ok (.invokestatic 50, 3) := by decide +kernel
theorem dX9_bitOf_25 : decode cX9_bitOf 25 = .ok (.bipush 8, 2) := by decide +kernel
theorem dX9_bitOf_27 : decode cX9_bitOf 27 = .ok (.iadd, 1) := by decide +kernel
theorem dX9_bitOf_28 : decode cX9_bitOf 28 = .ok (.iaload, 1) := by decide +kernel
theorem dX9_bitOf_29 : decode cX9_bitOf 29 = .ok (.aload_n 0, 1) := by decide +kernel
theorem dX9_bitOf_30 : decode cX9_bitOf 30 = .ok (.getfield 7, 3) := by decide +kernel
theorem dX9_bitOf_33 : decode cX9_bitOf 33 = .ok (.iload_n 1, 1) := by decide +kernel
theorem dX9_bitOf_34 : decode cX9_bitOf 34 = .ok (.invokestatic 50, 3) := by decide +kernel
theorem dX9_bitOf_37 : decode cX9_bitOf 37 = .ok (.bipush 6, 2) := by decide +kernel
theorem dX9_bitOf_39 : decode cX9_bitOf 39 = .ok (.iadd, 1) := by decide +kernel
theorem dX9_bitOf_40 : decode cX9_bitOf 40 = .ok (.iaload, 1) := by decide +kernel
theorem dX9_bitOf_41 : decode cX9_bitOf 41 = .ok (.invokestatic 63, 3) := by decide +kernel
theorem dX9_bitOf_44 : decode cX9_bitOf 44 = .ok (.goto 4, 3) := by decide +kernel
theorem dX9_bitOf_47 : decode cX9_bitOf 47 = .ok (.iconst 0, 1) := by decide +kernel
theorem dX9_bitOf_48 : decode cX9_bitOf 48 = .ok (.ireturn, 1) := by decide +kernel
set_option maxRecDepth 20000 in
theorem ggX9_begin_X9_n : GoodIn wsX9_begin wsX9_n := goodIn_r _ [6] (by decide +kernel) (by decide +kernel)
set_option maxRecDepth 20000 in
theorem gX9_begin_X9_n : GoodIn wsX9_begin (va_wsS RX9 50 yX9_n wsX9_n) := goodIn_app (goodIn_of _ (by decide +kernel)) ggX9_begin_X9_n
set_option maxRecDepth 20000 in
theorem ggX9_begin_X9_r : GoodIn wsX9_begin wsX9_r := goodIn_r _ [9] (by decide +kernel) (by decide +kernel)
set_option maxRecDepth 20000 in
theorem gX9_begin_X9_r : GoodIn wsX9_begin (va_wsS RX9 42 yX9_r wsX9_r) := goodIn_app (goodIn_of _ (by decide +kernel)) ggX9_begin_X9_r
set_option maxRecDepth 20000 in
theorem ggX9_begin_X9_isSender : GoodIn wsX9_begin wsX9_isSender := goodIn_r _ [13, 1, 14, 15, 5, 16, 3, 4, 6, 17, 18, 19, 20, 21, 22, 23, 24, 25, 26, 27, 28, 29, 30, 31] (by decide +kernel) (by decide +kernel)
set_option maxRecDepth 20000 in
theorem gX9_begin_X9_isSender : GoodIn wsX9_begin (wsV RX9 67 RX9 yX9_isSender wsX9_isSender) := goodIn_app (goodIn_of _ (by decide +kernel)) ggX9_begin_X9_isSender
theorem dX9_begin_0 : decode cX9_begin 0 = .ok (.iconst 0, 1) := by decide +kernel
theorem dX9_begin_1 : decode cX9_begin 1 = .ok (.istore_n 1, 1) := by decide +kernel
theorem dX9_begin_2 : decode cX9_begin 2 = .ok (.iload_n 1, 1) := by decide +kernel
theorem dX9_begin_3 : decode cX9_begin 3 = .ok (.iconst 5, 1) := by decide +kernel
theorem dX9_begin_4 : decode cX9_begin 4 = .ok (.if_icmp .ge 147, 3) := by decide +kernel
theorem dX9_begin_7 : decode cX9_begin 7 = .ok (.iload_n 1, 1) := by decide +kernel
theorem dX9_begin_8 : decode cX9_begin 8 = .ok (.invokestatic 50, 3) := by decide +kernel
theorem dX9_begin_11 : decode cX9_begin 11 = .ok (.istore_n 2, 1) := by decide +kernel
theorem dX9_begin_12 : decode cX9_begin 12 = .ok (.aload_n 0, 1) := by decide +kernel
theorem dX9_begin_13 : decode cX9_begin 13 = .ok (.getfield 7, 3) := by decide +kernel
theorem dX9_begin_16 : decode cX9_begin 16 = .ok (.iload_n 2, 1) := by decide +kernel
theorem dX9_begin_17 : decode cX9_begin 17 = .ok (.iconst 1, 1) := by decide +kernel
theorem dX9_begin_18 : decode cX9_begin 18 = .ok (.iadd, 1) := by decide +kernel
theorem dX9_begin_19 : decode cX9_begin 19 = .ok (.iaload, 1) := by decide +kernel
theorem dX9_begin_20 : decode cX9_begin 20 = .ok (.invokestatic 42, 3) := by decide +kernel
theorem dX9_begin_23 : decode cX9_begin 23 = .ok (.istore_n 3, 1) := by decide +kernel
theorem dX9_begin_24 : decode cX9_begin 24 = .ok (.aload_n 0, 1) := by decide +kernel
theorem dX9_begin_25 : decode cX9_begin 25 = .ok (.iload_n 1, 1) := by decide +kernel
theorem dX9_begin_26 : decode cX9_begin 26 = .ok (.invokevirtual 67, 3) := by decide +kernel
theorem dX9_begin_29 : decode cX9_begin 29 = .ok (.ifCond .eq 18, 3) := by decide +kernel
theorem dX9_begin_32 : decode cX9_begin 32 = .ok (.aload_n 0, 1) := by decide +kernel
theorem dX9_begin_33 : decode cX9_begin 33 = .ok (.getfield 7, 3) := by decide +kernel
theorem dX9_begin_36 : decode cX9_begin 36 = .ok (.iload_n 2, 1) := by decide +kernel
theorem dX9_begin_37 : decode cX9_begin 37 = .ok (.iconst 4, 1) := by decide +kernel
theorem dX9_begin_38 : decode cX9_begin 38 = .ok (.iadd, 1) := by decide +kernel
theorem dX9_begin_39 : decode cX9_begin 39 = .ok (.iaload, 1) := by decide +kernel
theorem dX9_begin_40 : decode cX9_begin 40 = .ok (.ifCond .ne 7, 3) := by decide +kernel
theorem dX9_begin_43 : decode cX9_begin 43 = .ok (.iconst 1, 1) := by decide +kernel
theorem dX9_begin_44 : decode cX9_begin 44 = .ok (.goto 4, 3) := by decide +kernel
theorem dX9_begin_47 : decode cX9_begin 47 = .ok (.iconst 0, 1) := by decide +kernel
theorem dX9_begin_48 : decode cX9_begin 48 = .ok (.istore 4, 2) := by decide +kernel
theorem dX9_begin_50 : decode cX9_begin 50 = .ok (.aload_n 0, 1) := by decide +kernel
theorem dX9_begin_51 : decode cX9_begin 51 = .ok (.getfield 31, 3) := by decide +kernel
theorem dX9_begin_54 : decode cX9_begin 54 = .ok (.iload_n 1, 1) := by decide +kernel
theorem dX9_begin_55 : decode cX9_begin 55 = .ok (.iload 4, 2) := by decide +kernel
theorem dX9_begin_57 : decode cX9_begin 57 = .ok (.ifCond .eq 52, 3) := by decide +kernel
theorem dX9_begin_60 : decode cX9_begin 60 = .ok (.aload_n 0, 1) := by decide +kernel
theorem dX9_begin_61 : decode cX9_begin 61 = .ok (.getfield 7, 3) := by decide +kernel
theorem dX9_begin_64 : decode cX9_begin 64 = .ok (.iload_n 2, 1) := by decide +kernel
theorem dX9_begin_65 : decode cX9_begin 65 = .ok (.iconst 3, 1) := by decide +kernel
theorem dX9_begin_66 : decode cX9_begin 66 = .ok (.iadd, 1) := by decide +kernel
theorem dX9_begin_67 : decode cX9_begin 67 = .ok (.iaload, 1) := by decide +kernel
theorem dX9_begin_68 : decode cX9_begin 68 = .ok (.ifCond .le 41, 3) := by decide +kernel
theorem dX9_begin_71 : decode cX9_begin 71 = .ok (.aload_n 0, 1) := by decide +kernel
theorem dX9_begin_72 : decode cX9_begin 72 = .ok (.getfield 7, 3) := by decide +kernel
theorem dX9_begin_75 : decode cX9_begin 75 = .ok (.iload_n 2, 1) := by decide +kernel
theorem dX9_begin_76 : decode cX9_begin 76 = .ok (.bipush 7, 2) := by decide +kernel
theorem dX9_begin_78 : decode cX9_begin 78 = .ok (.iadd, 1) := by decide +kernel
theorem dX9_begin_79 : decode cX9_begin 79 = .ok (.iaload, 1) := by decide +kernel
theorem dX9_begin_80 : decode cX9_begin 80 = .ok (.ifCond .ne 29, 3) := by decide +kernel
theorem dX9_begin_83 : decode cX9_begin 83 = .ok (.aload_n 0, 1) := by decide +kernel
theorem dX9_begin_84 : decode cX9_begin 84 = .ok (.getfield 7, 3) := by decide +kernel
theorem dX9_begin_87 : decode cX9_begin 87 = .ok (.iload_n 3, 1) := by decide +kernel
theorem dX9_begin_88 : decode cX9_begin 88 = .ok (.iconst 0, 1) := by decide +kernel
theorem dX9_begin_89 : decode cX9_begin 89 = .ok (.iadd, 1) := by decide +kernel
theorem dX9_begin_90 : decode cX9_begin 90 = .ok (.iaload, 1) := by decide +kernel
theorem dX9_begin_91 : decode cX9_begin 91 = .ok (.ifCond .ne 18, 3) := by decide +kernel
theorem dX9_begin_94 : decode cX9_begin 94 = .ok (.aload_n 0, 1) := by decide +kernel
theorem dX9_begin_95 : decode cX9_begin 95 = .ok (.getfield 7, 3) := by decide +kernel
theorem dX9_begin_98 : decode cX9_begin 98 = .ok (.iload_n 3, 1) := by decide +kernel
theorem dX9_begin_99 : decode cX9_begin 99 = .ok (.iconst 1, 1) := by decide +kernel
theorem dX9_begin_100 : decode cX9_begin 100 = .ok (.iadd, 1) := by decide +kernel
theorem dX9_begin_101 : decode cX9_begin 101 = .ok (.iaload, 1) := by decide +kernel
theorem dX9_begin_102 : decode cX9_begin 102 = .ok (.ifCond .ne 7, 3) := by decide +kernel
theorem dX9_begin_105 : decode cX9_begin 105 = .ok (.iconst 1, 1) := by decide +kernel
theorem dX9_begin_106 : decode cX9_begin 106 = .ok (.goto 4, 3) := by decide +kernel
theorem dX9_begin_109 : decode cX9_begin 109 = .ok (.iconst 0, 1) := by decide +kernel
theorem dX9_begin_110 : decode cX9_begin 110 = .ok (.bastore, 1) := by decide +kernel
theorem dX9_begin_111 : decode cX9_begin 111 = .ok (.aload_n 0, 1) := by decide +kernel
theorem dX9_begin_112 : decode cX9_begin 112 = .ok (.getfield 7, 3) := by decide +kernel
theorem dX9_begin_115 : decode cX9_begin 115 = .ok (.iload_n 2, 1) := by decide +kernel
theorem dX9_begin_116 : decode cX9_begin 116 = .ok (.bipush 7, 2) := by decide +kernel
theorem dX9_begin_118 : decode cX9_begin 118 = .ok (.iadd, 1) := by decide +kernel
theorem dX9_begin_119 : decode cX9_begin 119 = .ok (.dup2, 1) := by decide +kernel
theorem dX9_begin_120 : decode cX9_begin 120 = .ok (.iaload, 1) := by decide +kernel
theorem dX9_begin_121 : decode cX9_begin 121 = .ok (.iload 4, 2) := by decide +kernel
theorem dX9_begin_123 : decode cX9_begin 123 = .ok (.ifCond .eq 19, 3) := by decide +kernel
theorem dX9_begin_126 : decode cX9_begin 126 = .ok (.aload_n 0, 1) := by decide +kernel
theorem dX9_begin_127 : decode cX9_begin 127 = .ok (.getfield 7, 3) := by decide +kernel
theorem dX9_begin_130 : decode cX9_begin 130 = .ok (.iload_n 2, 1) := by decide +kernel
theorem dX9_begin_131 : decode cX9_begin 131 = .ok (.bipush 7, 2) := by decide +kernel
theorem dX9_begin_133 : decode cX9_begin 133 = .ok (.iadd, 1) := by decide +kernel
theorem dX9_begin_134 : decode cX9_begin 134 = .ok (.iaload, 1) := by decide +kernel
theorem dX9_begin_135 : decode cX9_begin 135 = .ok (.ifCond .le 7, 3) := by decide +kernel
theorem dX9_begin_138 : decode cX9_begin 138 = .ok (.iconst 1, 1) := by decide +kernel
theorem dX9_begin_139 : decode cX9_begin 139 = .ok (.goto 4, 3) := by decide +kernel
theorem dX9_begin_142 : decode cX9_begin 142 = .ok (.iconst 0, 1) := by decide +kernel
theorem dX9_begin_143 : decode cX9_begin 143 = .ok (.isub, 1) := by decide +kernel
theorem dX9_begin_144 : decode cX9_begin 144 = .ok (.iastore, 1) := by decide +kernel
theorem dX9_begin_145 : decode cX9_begin 145 = .ok (.iinc 1 1, 3) := by decide +kernel
theorem dX9_begin_148 : decode cX9_begin 148 = .ok (.goto (-146), 3) := by decide +kernel
theorem dX9_begin_151 : decode cX9_begin 151 = .ok (.iconst 0, 1) := by decide +kernel
theorem dX9_begin_152 : decode cX9_begin 152 = .ok (.istore_n 1, 1) := by decide +kernel
theorem dX9_begin_153 : decode cX9_begin 153 = .ok (.iload_n 1, 1) := by decide +kernel
theorem dX9_begin_154 : decode cX9_begin 154 = .ok (.iconst 5, 1) := by decide +kernel
theorem dX9_begin_155 : decode cX9_begin 155 = .ok (.if_icmp .ge 55, 3) := by decide +kernel
theorem dX9_begin_158 : decode cX9_begin 158 = .ok (.aload_n 0, 1) := by decide +kernel
theorem dX9_begin_159 : decode cX9_begin 159 = .ok (.getfield 31, 3) := by decide +kernel
theorem dX9_begin_162 : decode cX9_begin 162 = .ok (.iload_n 1, 1) := by decide +kernel
theorem dX9_begin_163 : decode cX9_begin 163 = .ok (.baload, 1) := by decide +kernel
theorem dX9_begin_164 : decode cX9_begin 164 = .ok (.ifCond .eq 40, 3) := by decide +kernel
theorem dX9_begin_167 : decode cX9_begin 167 = .ok (.aload_n 0, 1) := by decide +kernel
theorem dX9_begin_168 : decode cX9_begin 168 = .ok (.getfield 7, 3) := by decide +kernel
theorem dX9_begin_171 : decode cX9_begin 171 = .ok (.iload_n 1, 1) := by decide +kernel
theorem dX9_begin_172 : decode cX9_begin 172 = .ok (.invokestatic 50, 3) := by decide +kernel
theorem dX9_begin_175 : decode cX9_begin 175 = .ok (.iconst 4, 1) := by decide +kernel
theorem dX9_begin_176 : decode cX9_begin 176 = .ok (.iadd, 1) := by decide +kernel
theorem dX9_begin_177 : decode cX9_begin 177 = .ok (.iconst 1, 1) := by decide +kernel
theorem dX9_begin_178 : decode cX9_begin 178 = .ok (.iastore, 1) := by decide +kernel
theorem dX9_begin_179 : decode cX9_begin 179 = .ok (.aload_n 0, 1) := by decide +kernel
theorem dX9_begin_180 : decode cX9_begin 180 = .ok (.getfield 7, 3) := by decide +kernel
theorem dX9_begin_183 : decode cX9_begin 183 = .ok (.iload_n 1, 1) := by decide +kernel
theorem dX9_begin_184 : decode cX9_begin 184 = .ok (.invokestatic 50, 3) := by decide +kernel
theorem dX9_begin_187 : decode cX9_begin 187 = .ok (.iconst 5, 1) := by decide +kernel
theorem dX9_begin_188 : decode cX9_begin 188 = .ok (.iadd, 1) := by decide +kernel
theorem dX9_begin_189 : decode cX9_begin 189 = .ok (.iconst 0, 1) := by decide +kernel
theorem dX9_begin_190 : decode cX9_begin 190 = .ok (.iastore, 1) := by decide +kernel
theorem dX9_begin_191 : decode cX9_begin 191 = .ok (.aload_n 0, 1) := by decide +kernel
theorem dX9_begin_192 : decode cX9_begin 192 = .ok (.getfield 7, 3) := by decide +kernel
theorem dX9_begin_195 : decode cX9_begin 195 = .ok (.iload_n 1, 1) := by decide +kernel
theorem dX9_begin_196 : decode cX9_begin 196 = .ok (.invokestatic 50, 3) := by decide +kernel
theorem dX9_begin_199 : decode cX9_begin 199 = .ok (.bipush 6, 2) := by decide +kernel
theorem dX9_begin_201 : decode cX9_begin 201 = .ok (.iadd, 1) := by decide +kernel
theorem dX9_begin_202 : decode cX9_begin 202 = .ok (.iconst 0, 1) := by decide +kernel
theorem dX9_begin_203 : decode cX9_begin 203 = .ok (.iastore, 1) := by decide +kernel
theorem dX9_begin_204 : decode cX9_begin 204 = .ok (.iinc 1 1, 3) := by decide +kernel
theorem dX9_begin_207 : decode cX9_begin 207 = .ok (.goto (-54), 3) := by decide +kernel
theorem dX9_begin_210 : decode cX9_begin 210 = .ok (.return_, 1) := by decide +kernel
set_option maxRecDepth 20000 in
theorem ggX9_sound_X9_lossOf : GoodIn wsX9_sound wsX9_lossOf := goodIn_r _ [7, 2, 8, 9, 10, 11, 12, 13, 14, 15, 16, 17, 18, 19, 20, 21, 22] (by decide +kernel) (by decide +kernel)
set_option maxRecDepth 20000 in
theorem gX9_sound_X9_lossOf : GoodIn wsX9_sound (wsV RX9 71 RX9 yX9_lossOf wsX9_lossOf) := goodIn_app (goodIn_of _ (by decide +kernel)) ggX9_sound_X9_lossOf
theorem dX9_sound_0 : decode cX9_sound 0 = .ok (.iconst 0, 1) := by decide +kernel
theorem dX9_sound_1 : decode cX9_sound 1 = .ok (.istore_n 3, 1) := by decide +kernel
theorem dX9_sound_2 : decode cX9_sound 2 = .ok (.iload_n 3, 1) := by decide +kernel
theorem dX9_sound_3 : decode cX9_sound 3 = .ok (.bipush 6, 2) := by decide +kernel
theorem dX9_sound_5 : decode cX9_sound 5 = .ok (.if_icmp .ge 42, 3) := by decide +kernel
theorem dX9_sound_8 : decode cX9_sound 8 = .ok (.aload_n 0, 1) := by decide +kernel
theorem dX9_sound_9 : decode cX9_sound 9 = .ok (.getfield 25, 3) := by decide +kernel
theorem dX9_sound_12 : decode cX9_sound 12 = .ok (.iload_n 3, 1) := by decide +kernel
theorem dX9_sound_13 : decode cX9_sound 13 = .ok (.iload_n 2, 1) := by decide +kernel
theorem dX9_sound_14 : decode cX9_sound 14 = .ok (.aload_n 0, 1) := by decide +kernel
theorem dX9_sound_15 : decode cX9_sound 15 = .ok (.iload_n 1, 1) := by decide +kernel
theorem dX9_sound_16 : decode cX9_sound 16 = .ok (.iload_n 3, 1) := by decide +kernel
theorem dX9_sound_17 : decode cX9_sound 17 = .ok (.invokevirtual 71, 3) := by decide +kernel
theorem dX9_sound_20 : decode cX9_sound 20 = .ok (.isub, 1) := by decide +kernel
theorem dX9_sound_21 : decode cX9_sound 21 = .ok (.aload_n 0, 1) := by decide +kernel
theorem dX9_sound_22 : decode cX9_sound 22 = .ok (.getfield 7, 3) := by decide +kernel
theorem dX9_sound_25 : decode cX9_sound 25 = .ok (.iconst 2, 1) := by decide +kernel
theorem dX9_sound_26 : decode cX9_sound 26 = .ok (.iaload, 1) := by decide +kernel
theorem dX9_sound_27 : decode cX9_sound 27 = .ok (.if_icmp .lt 7, 3) := by decide +kernel
theorem dX9_sound_30 : decode cX9_sound 30 = .ok (.iconst 1, 1) := by decide +kernel
theorem dX9_sound_31 : decode cX9_sound 31 = .ok (.goto 9, 3) := by decide +kernel
theorem dX9_sound_34 : decode cX9_sound 34 = .ok (.aload_n 0, 1) := by decide +kernel
theorem dX9_sound_35 : decode cX9_sound 35 = .ok (.getfield 25, 3) := by decide +kernel
theorem dX9_sound_38 : decode cX9_sound 38 = .ok (.iload_n 3, 1) := by decide +kernel
theorem dX9_sound_39 : decode cX9_sound 39 = .ok (.iaload, 1) := by decide +kernel
theorem dX9_sound_40 : decode cX9_sound 40 = .ok (.iastore, 1) := by decide +kernel
theorem dX9_sound_41 : decode cX9_sound 41 = .ok (.iinc 3 1, 3) := by decide +kernel
theorem dX9_sound_44 : decode cX9_sound 44 = .ok (.goto (-42), 3) := by decide +kernel
theorem dX9_sound_47 : decode cX9_sound 47 = .ok (.return_, 1) := by decide +kernel
set_option maxRecDepth 20000 in
theorem ggX9_send_X9_isSender : GoodIn wsX9_send wsX9_isSender := goodIn_r _ [8, 2, 9, 10, 7, 11, 12, 13, 14, 37, 38, 39, 40, 41, 42, 43, 44, 45, 46, 47, 48, 49, 50, 51] (by decide +kernel) (by decide +kernel)
set_option maxRecDepth 20000 in
theorem gX9_send_X9_isSender : GoodIn wsX9_send (wsV RX9 67 RX9 yX9_isSender wsX9_isSender) := goodIn_app (goodIn_of _ (by decide +kernel)) ggX9_send_X9_isSender
set_option maxRecDepth 20000 in
theorem ggX9_send_X9_n : GoodIn wsX9_send wsX9_n := goodIn_r _ [14] (by decide +kernel) (by decide +kernel)
set_option maxRecDepth 20000 in
theorem gX9_send_X9_n : GoodIn wsX9_send (va_wsS RX9 50 yX9_n wsX9_n) := goodIn_app (goodIn_of _ (by decide +kernel)) ggX9_send_X9_n
set_option maxRecDepth 20000 in
theorem ggX9_send_X9_bitOf : GoodIn wsX9_send wsX9_bitOf := goodIn_r _ [18, 2, 12, 13, 7, 14, 19, 20, 21, 37, 38, 39, 40, 41, 42, 43, 44, 45, 46, 47, 48, 49, 50, 51] (by decide +kernel) (by decide +kernel)
set_option maxRecDepth 20000 in
theorem gX9_send_X9_bitOf : GoodIn wsX9_send (wsV RX9 74 RX9 yX9_bitOf wsX9_bitOf) := goodIn_app (goodIn_of _ (by decide +kernel)) ggX9_send_X9_bitOf
set_option maxRecDepth 20000 in
theorem ggX9_send_X9_sound : GoodIn wsX9_send wsX9_sound := goodIn_r _ [25, 1, 2, 26, 27, 28, 7, 29, 37, 38, 39, 40, 41, 42, 43, 44, 45, 46, 47, 48, 49, 50, 51] (by decide +kernel) (by decide +kernel)
set_option maxRecDepth 20000 in
theorem gX9_send_X9_sound : GoodIn wsX9_send (wsV RX9 77 RX9 yX9_sound wsX9_sound) := goodIn_app (goodIn_of _ (by decide +kernel)) ggX9_send_X9_sound
set_option maxRecDepth 20000 in
theorem ggX9_send_X9_m : GoodIn wsX9_send wsX9_m := goodIn_r _ [32] (by decide +kernel) (by decide +kernel)
set_option maxRecDepth 20000 in
theorem gX9_send_X9_m : GoodIn wsX9_send (va_wsS RX9 53 yX9_m wsX9_m) := goodIn_app (goodIn_of _ (by decide +kernel)) ggX9_send_X9_m
set_option maxRecDepth 20000 in
theorem ggX9_send_X9_isMachine : GoodIn wsX9_send wsX9_isMachine := goodIn_r _ [36, 2, 9, 10, 7, 11, 30, 31, 32, 37, 38, 39, 40, 41, 42, 43, 44, 45, 46, 47, 48, 49, 50, 51] (by decide +kernel) (by decide +kernel)
set_option maxRecDepth 20000 in
theorem gX9_send_X9_isMachine : GoodIn wsX9_send (wsV RX9 81 RX9 yX9_isMachine wsX9_isMachine) := goodIn_app (goodIn_of _ (by decide +kernel)) ggX9_send_X9_isMachine
theorem dX9_send_0 : decode cX9_send 0 = .ok (.iconst 0, 1) := by decide +kernel
theorem dX9_send_1 : decode cX9_send 1 = .ok (.istore_n 1, 1) := by decide +kernel
theorem dX9_send_2 : decode cX9_send 2 = .ok (.iload_n 1, 1) := by decide +kernel
theorem dX9_send_3 : decode cX9_send 3 = .ok (.bipush 6, 2) := by decide +kernel
theorem dX9_send_5 : decode cX9_send 5 = .ok (.if_icmp .ge 16, 3) := by decide +kernel
theorem dX9_send_8 : decode cX9_send 8 = .ok (.aload_n 0, 1) := by decide +kernel
theorem dX9_send_9 : decode cX9_send 9 = .ok (.getfield 25, 3) := by decide +kernel
theorem dX9_send_12 : decode cX9_send 12 = .ok (.iload_n 1, 1) := by decide +kernel
theorem dX9_send_13 : decode cX9_send 13 = .ok (.iconst 0, 1) := by decide +kernel
theorem dX9_send_14 : decode cX9_send 14 = .ok (.iastore, 1) := by decide +kernel
theorem dX9_send_15 : decode cX9_send 15 = .ok (.iinc 1 1, 3) := by decide +kernel
theorem dX9_send_18 : decode cX9_send 18 = .ok (.goto (-16), 3) := by decide +kernel
theorem dX9_send_21 : decode cX9_send 21 = .ok (.iconst 0, 1) := by decide +kernel
theorem dX9_send_22 : decode cX9_send 22 = .ok (.istore_n 1, 1) := by decide +kernel
theorem dX9_send_23 : decode cX9_send 23 = .ok (.iload_n 1, 1) := by decide +kernel
theorem dX9_send_24 : decode cX9_send 24 = .ok (.iconst 5, 1) := by decide +kernel
theorem dX9_send_25 : decode cX9_send 25 = .ok (.if_icmp .ge 93, 3) := by decide +kernel
theorem dX9_send_28 : decode cX9_send 28 = .ok (.aload_n 0, 1) := by decide +kernel
theorem dX9_send_29 : decode cX9_send 29 = .ok (.iload_n 1, 1) := by decide +kernel
theorem dX9_send_30 : decode cX9_send 30 = .ok (.invokevirtual 67, 3) := by decide +kernel
theorem dX9_send_33 : decode cX9_send 33 = .ok (.ifCond .eq 22, 3) := by decide +kernel
theorem dX9_send_36 : decode cX9_send 36 = .ok (.aload_n 0, 1) := by decide +kernel
theorem dX9_send_37 : decode cX9_send 37 = .ok (.getfield 7, 3) := by decide +kernel
theorem dX9_send_40 : decode cX9_send 40 = .ok (.iload_n 1, 1) := by decide +kernel
theorem dX9_send_41 : decode cX9_send 41 = .ok (.invokestatic 50, 3) := by decide +kernel
theorem dX9_send_44 : decode cX9_send 44 = .ok (.iconst 4, 1) := by decide +kernel
theorem dX9_send_45 : decode cX9_send 45 = .ok (.iadd, 1) := by decide +kernel
theorem dX9_send_46 : decode cX9_send 46 = .ok (.iaload, 1) := by decide +kernel
theorem dX9_send_47 : decode cX9_send 47 = .ok (.iconst 1, 1) := by decide +kernel
theorem dX9_send_48 : decode cX9_send 48 = .ok (.if_icmp .ne 7, 3) := by decide +kernel
theorem dX9_send_51 : decode cX9_send 51 = .ok (.iconst 1, 1) := by decide +kernel
theorem dX9_send_52 : decode cX9_send 52 = .ok (.goto 4, 3) := by decide +kernel
theorem dX9_send_55 : decode cX9_send 55 = .ok (.iconst 0, 1) := by decide +kernel
theorem dX9_send_56 : decode cX9_send 56 = .ok (.istore_n 2, 1) := by decide +kernel
theorem dX9_send_57 : decode cX9_send 57 = .ok (.aload_n 0, 1) := by decide +kernel
theorem dX9_send_58 : decode cX9_send 58 = .ok (.getfield 28, 3) := by decide +kernel
theorem dX9_send_61 : decode cX9_send 61 = .ok (.iload_n 1, 1) := by decide +kernel
theorem dX9_send_62 : decode cX9_send 62 = .ok (.iload_n 2, 1) := by decide +kernel
theorem dX9_send_63 : decode cX9_send 63 = .ok (.ifCond .eq 11, 3) := by decide +kernel
theorem dX9_send_66 : decode cX9_send 66 = .ok (.aload_n 0, 1) := by decide +kernel
theorem dX9_send_67 : decode cX9_send 67 = .ok (.iload_n 1, 1) := by decide +kernel
theorem dX9_send_68 : decode cX9_send 68 = .ok (.invokevirtual 74, 3) := by decide +kernel
theorem dX9_send_71 : decode cX9_send 71 = .ok (.goto 4, 3) := by decide +kernel
theorem dX9_send_74 : decode cX9_send 74 = .ok (.iconst 0, 1) := by decide +kernel
theorem dX9_send_75 : decode cX9_send 75 = .ok (.iastore, 1) := by decide +kernel
theorem dX9_send_76 : decode cX9_send 76 = .ok (.aload_n 0, 1) := by decide +kernel
theorem dX9_send_77 : decode cX9_send 77 = .ok (.getfield 28, 3) := by decide +kernel
theorem dX9_send_80 : decode cX9_send 80 = .ok (.iload_n 1, 1) := by decide +kernel
theorem dX9_send_81 : decode cX9_send 81 = .ok (.iaload, 1) := by decide +kernel
theorem dX9_send_82 : decode cX9_send 82 = .ok (.iconst 1, 1) := by decide +kernel
theorem dX9_send_83 : decode cX9_send 83 = .ok (.if_icmp .ne 29, 3) := by decide +kernel
theorem dX9_send_86 : decode cX9_send 86 = .ok (.aload_n 0, 1) := by decide +kernel
theorem dX9_send_87 : decode cX9_send 87 = .ok (.aload_n 0, 1) := by decide +kernel
theorem dX9_send_88 : decode cX9_send 88 = .ok (.getfield 7, 3) := by decide +kernel
theorem dX9_send_91 : decode cX9_send 91 = .ok (.iload_n 1, 1) := by decide +kernel
theorem dX9_send_92 : decode cX9_send 92 = .ok (.invokestatic 50, 3) := by decide +kernel
theorem dX9_send_95 : decode cX9_send 95 = .ok (.iconst 1, 1) := by decide +kernel
theorem dX9_send_96 : decode cX9_send 96 = .ok (.iadd, 1) := by decide +kernel
theorem dX9_send_97 : decode cX9_send 97 = .ok (.iaload, 1) := by decide +kernel
theorem dX9_send_98 : decode cX9_send 98 = .ok (.aload_n 0, 1) := by decide +kernel
theorem dX9_send_99 : decode cX9_send 99 = .ok (.getfield 7, 3) := by decide +kernel
theorem dX9_send_102 : decode cX9_send 102 = .ok (.iload_n 1, 1) := by decide +kernel
theorem dX9_send_103 : decode cX9_send 103 = .ok (.invokestatic 50, 3) := by decide +kernel
theorem dX9_send_106 : decode cX9_send 106 = .ok (.iconst 2, 1) := by decide +kernel
theorem dX9_send_107 : decode cX9_send 107 = .ok (.iadd, 1) := by decide +kernel
theorem dX9_send_108 : decode cX9_send 108 = .ok (.iaload, 1) := by decide +kernel
theorem dX9_send_109 : decode cX9_send 109 = .ok (.invokevirtual 77, 3) := by decide +kernel
theorem dX9_send_112 : decode cX9_send 112 = .ok (.iinc 1 1, 3) := by decide +kernel
theorem dX9_send_115 : decode cX9_send 115 = .ok (.goto (-92), 3) := by decide +kernel
theorem dX9_send_118 : decode cX9_send 118 = .ok (.iconst 0, 1) := by decide +kernel
theorem dX9_send_119 : decode cX9_send 119 = .ok (.istore_n 1, 1) := by decide +kernel
theorem dX9_send_120 : decode cX9_send 120 = .ok (.iload_n 1, 1) := by decide +kernel
theorem dX9_send_121 : decode cX9_send 121 = .ok (.iconst 4, 1) := by decide +kernel
theorem dX9_send_122 : decode cX9_send 122 = .ok (.if_icmp .ge 72, 3) := by decide +kernel
theorem dX9_send_125 : decode cX9_send 125 = .ok (.iload_n 1, 1) := by decide +kernel
theorem dX9_send_126 : decode cX9_send 126 = .ok (.invokestatic 53, 3) := by decide +kernel
theorem dX9_send_129 : decode cX9_send 129 = .ok (.istore_n 2, 1) := by decide +kernel
theorem dX9_send_130 : decode cX9_send 130 = .ok (.aload_n 0, 1) := by decide +kernel
theorem dX9_send_131 : decode cX9_send 131 = .ok (.iload_n 1, 1) := by decide +kernel
theorem dX9_send_132 : decode cX9_send 132 = .ok (.invokevirtual 81, 3) := by decide +kernel
theorem dX9_send_135 : decode cX9_send 135 = .ok (.ifCond .eq 53, 3) := by decide +kernel
theorem dX9_send_138 : decode cX9_send 138 = .ok (.aload_n 0, 1) := by decide +kernel
theorem dX9_send_139 : decode cX9_send 139 = .ok (.getfield 7, 3) := by decide +kernel
theorem dX9_send_142 : decode cX9_send 142 = .ok (.iload_n 2, 1) := by decide +kernel
theorem dX9_send_143 : decode cX9_send 143 = .ok (.iconst 4, 1) := by decide +kernel
theorem dX9_send_144 : decode cX9_send 144 = .ok (.iadd, 1) := by decide +kernel
theorem dX9_send_145 : decode cX9_send 145 = .ok (.iaload, 1) := by decide +kernel
theorem dX9_send_146 : decode cX9_send 146 = .ok (.iconst 1, 1) := by decide +kernel
theorem dX9_send_147 : decode cX9_send 147 = .ok (.if_icmp .ne 41, 3) := by decide +kernel
theorem dX9_send_150 : decode cX9_send 150 = .ok (.aload_n 0, 1) := by decide +kernel
theorem dX9_send_151 : decode cX9_send 151 = .ok (.getfield 7, 3) := by decide +kernel
theorem dX9_send_154 : decode cX9_send 154 = .ok (.iconst 4, 1) := by decide +kernel
theorem dX9_send_155 : decode cX9_send 155 = .ok (.iaload, 1) := by decide +kernel
theorem dX9_send_156 : decode cX9_send 156 = .ok (.aload_n 0, 1) := by decide +kernel
theorem dX9_send_157 : decode cX9_send 157 = .ok (.getfield 7, 3) := by decide +kernel
theorem dX9_send_160 : decode cX9_send 160 = .ok (.iload_n 2, 1) := by decide +kernel
theorem dX9_send_161 : decode cX9_send 161 = .ok (.iconst 3, 1) := by decide +kernel
theorem dX9_send_162 : decode cX9_send 162 = .ok (.iadd, 1) := by decide +kernel
theorem dX9_send_163 : decode cX9_send 163 = .ok (.iaload, 1) := by decide +kernel
theorem dX9_send_164 : decode cX9_send 164 = .ok (.irem, 1) := by decide +kernel
theorem dX9_send_165 : decode cX9_send 165 = .ok (.ifCond .ne 23, 3) := by decide +kernel
theorem dX9_send_168 : decode cX9_send 168 = .ok (.aload_n 0, 1) := by decide +kernel
theorem dX9_send_169 : decode cX9_send 169 = .ok (.aload_n 0, 1) := by decide +kernel
theorem dX9_send_170 : decode cX9_send 170 = .ok (.getfield 7, 3) := by decide +kernel
theorem dX9_send_173 : decode cX9_send 173 = .ok (.iload_n 2, 1) := by decide +kernel
theorem dX9_send_174 : decode cX9_send 174 = .ok (.iconst 1, 1) := by decide +kernel
theorem dX9_send_175 : decode cX9_send 175 = .ok (.iadd, 1) := by decide +kernel
theorem dX9_send_176 : decode cX9_send 176 = .ok (.iaload, 1) := by decide +kernel
theorem dX9_send_177 : decode cX9_send 177 = .ok (.aload_n 0, 1) := by decide +kernel
theorem dX9_send_178 : decode cX9_send 178 = .ok (.getfield 7, 3) := by decide +kernel
theorem dX9_send_181 : decode cX9_send 181 = .ok (.iload_n 2, 1) := by decide +kernel
theorem dX9_send_182 : decode cX9_send 182 = .ok (.iconst 2, 1) := by decide +kernel
theorem dX9_send_183 : decode cX9_send 183 = .ok (.iadd, 1) := by decide +kernel
theorem dX9_send_184 : decode cX9_send 184 = .ok (.iaload, 1) := by decide +kernel
theorem dX9_send_185 : decode cX9_send 185 = .ok (.invokevirtual 77, 3) := by decide +kernel
theorem dX9_send_188 : decode cX9_send 188 = .ok (.iinc 1 1, 3) := by decide +kernel
theorem dX9_send_191 : decode cX9_send 191 = .ok (.goto (-71), 3) := by decide +kernel
theorem dX9_send_194 : decode cX9_send 194 = .ok (.return_, 1) := by decide +kernel
theorem dX9_finish_0 : decode cX9_finish 0 = .ok (.aload_n 0, 1) := by decide +kernel
theorem dX9_finish_1 : decode cX9_finish 1 = .ok (.getfield 7, 3) := by decide +kernel
theorem dX9_finish_4 : decode cX9_finish 4 = .ok (.iload_n 1, 1) := by decide +kernel
theorem dX9_finish_5 : decode cX9_finish 5 = .ok (.iconst 4, 1) := by decide +kernel
theorem dX9_finish_6 : decode cX9_finish 6 = .ok (.iadd, 1) := by decide +kernel
theorem dX9_finish_7 : decode cX9_finish 7 = .ok (.iconst 0, 1) := by decide +kernel
theorem dX9_finish_8 : decode cX9_finish 8 = .ok (.iastore, 1) := by decide +kernel
theorem dX9_finish_9 : decode cX9_finish 9 = .ok (.iconst 0, 1) := by decide +kernel
theorem dX9_finish_10 : decode cX9_finish 10 = .ok (.istore_n 2, 1) := by decide +kernel
theorem dX9_finish_11 : decode cX9_finish 11 = .ok (.iload_n 2, 1) := by decide +kernel
theorem dX9_finish_12 : decode cX9_finish 12 = .ok (.iconst 5, 1) := by decide +kernel
theorem dX9_finish_13 : decode cX9_finish 13 = .ok (.if_icmp .ge 33, 3) := by decide +kernel
theorem dX9_finish_16 : decode cX9_finish 16 = .ok (.aload_n 0, 1) := by decide +kernel
theorem dX9_finish_17 : decode cX9_finish 17 = .ok (.getfield 7, 3) := by decide +kernel
theorem dX9_finish_20 : decode cX9_finish 20 = .ok (.iload_n 1, 1) := by decide +kernel
theorem dX9_finish_21 : decode cX9_finish 21 = .ok (.bipush 8, 2) := by decide +kernel
theorem dX9_finish_23 : decode cX9_finish 23 = .ok (.iadd, 1) := by decide +kernel
theorem dX9_finish_24 : decode cX9_finish 24 = .ok (.iload_n 2, 1) := by decide +kernel
theorem dX9_finish_25 : decode cX9_finish 25 = .ok (.iadd, 1) := by decide +kernel
theorem dX9_finish_26 : decode cX9_finish 26 = .ok (.aload_n 0, 1) := by decide +kernel
theorem dX9_finish_27 : decode cX9_finish 27 = .ok (.getfield 7, 3) := by decide +kernel
theorem dX9_finish_30 : decode cX9_finish 30 = .ok (.iload_n 1, 1) := by decide +kernel
theorem dX9_finish_31 : decode cX9_finish 31 = .ok (.bipush 8, 2) := by decide +kernel
theorem dX9_finish_33 : decode cX9_finish 33 = .ok (.iadd, 1) := by decide +kernel
theorem dX9_finish_34 : decode cX9_finish 34 = .ok (.iload_n 2, 1) := by decide +kernel
theorem dX9_finish_35 : decode cX9_finish 35 = .ok (.iadd, 1) := by decide +kernel
theorem dX9_finish_36 : decode cX9_finish 36 = .ok (.iconst 1, 1) := by decide +kernel
theorem dX9_finish_37 : decode cX9_finish 37 = .ok (.iadd, 1) := by decide +kernel
theorem dX9_finish_38 : decode cX9_finish 38 = .ok (.iaload, 1) := by decide +kernel
theorem dX9_finish_39 : decode cX9_finish 39 = .ok (.iastore, 1) := by decide +kernel
theorem dX9_finish_40 : decode cX9_finish 40 = .ok (.iinc 2 1, 3) := by decide +kernel
theorem dX9_finish_43 : decode cX9_finish 43 = .ok (.goto (-32), 3) := by decide +kernel
theorem dX9_finish_46 : decode cX9_finish 46 = .ok (.aload_n 0, 1) := by decide +kernel
theorem dX9_finish_47 : decode cX9_finish 47 = .ok (.getfield 7, 3) := by decide +kernel
theorem dX9_finish_50 : decode cX9_finish 50 = .ok (.iload_n 1, 1) := by decide +kernel
theorem dX9_finish_51 : decode cX9_finish 51 = .ok (.iconst 3, 1) := by decide +kernel
theorem dX9_finish_52 : decode cX9_finish 52 = .ok (.iadd, 1) := by decide +kernel
theorem dX9_finish_53 : decode cX9_finish 53 = .ok (.dup2, 1) := by decide +kernel
theorem dX9_finish_54 : decode cX9_finish 54 = .ok (.iaload, 1) := by decide +kernel
theorem dX9_finish_55 : decode cX9_finish 55 = .ok (.iconst 1, 1) := by decide +kernel
theorem dX9_finish_56 : decode cX9_finish 56 = .ok (.isub, 1) := by decide +kernel
theorem dX9_finish_57 : decode cX9_finish 57 = .ok (.iastore, 1) := by decide +kernel
theorem dX9_finish_58 : decode cX9_finish 58 = .ok (.aload_n 0, 1) := by decide +kernel
theorem dX9_finish_59 : decode cX9_finish 59 = .ok (.getfield 7, 3) := by decide +kernel
theorem dX9_finish_62 : decode cX9_finish 62 = .ok (.iconst 5, 1) := by decide +kernel
theorem dX9_finish_63 : decode cX9_finish 63 = .ok (.dup2, 1) := by decide +kernel
theorem dX9_finish_64 : decode cX9_finish 64 = .ok (.iaload, 1) := by decide +kernel
theorem dX9_finish_65 : decode cX9_finish 65 = .ok (.iconst 1, 1) := by decide +kernel
theorem dX9_finish_66 : decode cX9_finish 66 = .ok (.iadd, 1) := by decide +kernel
theorem dX9_finish_67 : decode cX9_finish 67 = .ok (.iastore, 1) := by decide +kernel
theorem dX9_finish_68 : decode cX9_finish 68 = .ok (.return_, 1) := by decide +kernel
set_option maxRecDepth 20000 in
theorem ggX9_goOn_X9_n : GoodIn wsX9_goOn wsX9_n := goodIn_r _ [7] (by decide +kernel) (by decide +kernel)
set_option maxRecDepth 20000 in
theorem gX9_goOn_X9_n : GoodIn wsX9_goOn (va_wsS RX9 50 yX9_n wsX9_n) := goodIn_app (goodIn_of _ (by decide +kernel)) ggX9_goOn_X9_n
set_option maxRecDepth 20000 in
theorem ggX9_goOn_X9_finish : GoodIn wsX9_goOn wsX9_finish := goodIn_r _ [11, 1, 12, 13, 14, 15, 16, 17, 18, 19, 20, 21, 22, 23, 24, 25, 26] (by decide +kernel) (by decide +kernel)
set_option maxRecDepth 20000 in
theorem gX9_goOn_X9_finish : GoodIn wsX9_goOn (wsV RX9 84 RX9 yX9_finish wsX9_finish) := goodIn_app (goodIn_of _ (by decide +kernel)) ggX9_goOn_X9_finish
theorem dX9_goOn_0 : decode cX9_goOn 0 = .ok (.iload_n 1, 1) := by decide +kernel
theorem dX9_goOn_1 : decode cX9_goOn 1 = .ok (.invokestatic 50, 3) := by decide +kernel
theorem dX9_goOn_4 : decode cX9_goOn 4 = .ok (.istore_n 2, 1) := by decide +kernel
theorem dX9_goOn_5 : decode cX9_goOn 5 = .ok (.aload_n 0, 1) := by decide +kernel
theorem dX9_goOn_6 : decode cX9_goOn 6 = .ok (.getfield 7, 3) := by decide +kernel
theorem dX9_goOn_9 : decode cX9_goOn 9 = .ok (.iload_n 2, 1) := by decide +kernel
theorem dX9_goOn_10 : decode cX9_goOn 10 = .ok (.bipush 6, 2) := by decide +kernel
theorem dX9_goOn_12 : decode cX9_goOn 12 = .ok (.iadd, 1) := by decide +kernel
theorem dX9_goOn_13 : decode cX9_goOn 13 = .ok (.iaload, 1) := by decide +kernel
theorem dX9_goOn_14 : decode cX9_goOn 14 = .ok (.bipush 14, 2) := by decide +kernel
theorem dX9_goOn_16 : decode cX9_goOn 16 = .ok (.if_icmp .ge 64, 3) := by decide +kernel
theorem dX9_goOn_19 : decode cX9_goOn 19 = .ok (.aload_n 0, 1) := by decide +kernel
theorem dX9_goOn_20 : decode cX9_goOn 20 = .ok (.getfield 28, 3) := by decide +kernel
theorem dX9_goOn_23 : decode cX9_goOn 23 = .ok (.iload_n 1, 1) := by decide +kernel
theorem dX9_goOn_24 : decode cX9_goOn 24 = .ok (.iaload, 1) := by decide +kernel
theorem dX9_goOn_25 : decode cX9_goOn 25 = .ok (.ifCond .ne 55, 3) := by decide +kernel
theorem dX9_goOn_28 : decode cX9_goOn 28 = .ok (.aload_n 0, 1) := by decide +kernel
theorem dX9_goOn_29 : decode cX9_goOn 29 = .ok (.getfield 25, 3) := by decide +kernel
theorem dX9_goOn_32 : decode cX9_goOn 32 = .ok (.aload_n 0, 1) := by decide +kernel
theorem dX9_goOn_33 : decode cX9_goOn 33 = .ok (.getfield 7, 3) := by decide +kernel
theorem dX9_goOn_36 : decode cX9_goOn 36 = .ok (.iload_n 2, 1) := by decide +kernel
theorem dX9_goOn_37 : decode cX9_goOn 37 = .ok (.iconst 1, 1) := by decide +kernel
theorem dX9_goOn_38 : decode cX9_goOn 38 = .ok (.iadd, 1) := by decide +kernel
theorem dX9_goOn_39 : decode cX9_goOn 39 = .ok (.iaload, 1) := by decide +kernel
theorem dX9_goOn_40 : decode cX9_goOn 40 = .ok (.iaload, 1) := by decide +kernel
theorem dX9_goOn_41 : decode cX9_goOn 41 = .ok (.iconst 1, 1) := by decide +kernel
theorem dX9_goOn_42 : decode cX9_goOn 42 = .ok (.if_icmp .ne 38, 3) := by decide +kernel
theorem dX9_goOn_45 : decode cX9_goOn 45 = .ok (.aload_n 0, 1) := by decide +kernel
theorem dX9_goOn_46 : decode cX9_goOn 46 = .ok (.getfield 7, 3) := by decide +kernel
theorem dX9_goOn_49 : decode cX9_goOn 49 = .ok (.iload_n 2, 1) := by decide +kernel
theorem dX9_goOn_50 : decode cX9_goOn 50 = .ok (.iconst 4, 1) := by decide +kernel
theorem dX9_goOn_51 : decode cX9_goOn 51 = .ok (.iadd, 1) := by decide +kernel
theorem dX9_goOn_52 : decode cX9_goOn 52 = .ok (.iconst 0, 1) := by decide +kernel
theorem dX9_goOn_53 : decode cX9_goOn 53 = .ok (.iastore, 1) := by decide +kernel
theorem dX9_goOn_54 : decode cX9_goOn 54 = .ok (.aload_n 0, 1) := by decide +kernel
theorem dX9_goOn_55 : decode cX9_goOn 55 = .ok (.getfield 7, 3) := by decide +kernel
theorem dX9_goOn_58 : decode cX9_goOn 58 = .ok (.iload_n 2, 1) := by decide +kernel
theorem dX9_goOn_59 : decode cX9_goOn 59 = .ok (.bipush 7, 2) := by decide +kernel
theorem dX9_goOn_61 : decode cX9_goOn 61 = .ok (.iadd, 1) := by decide +kernel
theorem dX9_goOn_62 : decode cX9_goOn 62 = .ok (.iconst 3, 1) := by decide +kernel
theorem dX9_goOn_63 : decode cX9_goOn 63 = .ok (.iconst 2, 1) := by decide +kernel
theorem dX9_goOn_64 : decode cX9_goOn 64 = .ok (.iload_n 1, 1) := by decide +kernel
theorem dX9_goOn_65 : decode cX9_goOn 65 = .ok (.imul, 1) := by decide +kernel
theorem dX9_goOn_66 : decode cX9_goOn 66 = .ok (.iadd, 1) := by decide +kernel
theorem dX9_goOn_67 : decode cX9_goOn 67 = .ok (.iastore, 1) := by decide +kernel
theorem dX9_goOn_68 : decode cX9_goOn 68 = .ok (.aload_n 0, 1) := by decide +kernel
theorem dX9_goOn_69 : decode cX9_goOn 69 = .ok (.getfield 7, 3) := by decide +kernel
theorem dX9_goOn_72 : decode cX9_goOn 72 = .ok (.bipush 6, 2) := by decide +kernel
theorem dX9_goOn_74 : decode cX9_goOn 74 = .ok (.dup2, 1) := by decide +kernel
theorem dX9_goOn_75 : decode cX9_goOn 75 = .ok (.iaload, 1) := by decide +kernel
theorem dX9_goOn_76 : decode cX9_goOn 76 = .ok (.iconst 1, 1) := by decide +kernel
theorem dX9_goOn_77 : decode cX9_goOn 77 = .ok (.iadd, 1) := by decide +kernel
theorem dX9_goOn_78 : decode cX9_goOn 78 = .ok (.iastore, 1) := by decide +kernel
theorem dX9_goOn_79 : decode cX9_goOn 79 = .ok (.return_, 1) := by decide +kernel
theorem dX9_goOn_80 : decode cX9_goOn 80 = .ok (.aload_n 0, 1) := by decide +kernel
theorem dX9_goOn_81 : decode cX9_goOn 81 = .ok (.getfield 7, 3) := by decide +kernel
theorem dX9_goOn_84 : decode cX9_goOn 84 = .ok (.iload_n 2, 1) := by decide +kernel
theorem dX9_goOn_85 : decode cX9_goOn 85 = .ok (.bipush 6, 2) := by decide +kernel
theorem dX9_goOn_87 : decode cX9_goOn 87 = .ok (.iadd, 1) := by decide +kernel
theorem dX9_goOn_88 : decode cX9_goOn 88 = .ok (.dup2, 1) := by decide +kernel
theorem dX9_goOn_89 : decode cX9_goOn 89 = .ok (.iaload, 1) := by decide +kernel
theorem dX9_goOn_90 : decode cX9_goOn 90 = .ok (.iconst 1, 1) := by decide +kernel
theorem dX9_goOn_91 : decode cX9_goOn 91 = .ok (.iadd, 1) := by decide +kernel
theorem dX9_goOn_92 : decode cX9_goOn 92 = .ok (.iastore, 1) := by decide +kernel
theorem dX9_goOn_93 : decode cX9_goOn 93 = .ok (.aload_n 0, 1) := by decide +kernel
theorem dX9_goOn_94 : decode cX9_goOn 94 = .ok (.getfield 7, 3) := by decide +kernel
theorem dX9_goOn_97 : decode cX9_goOn 97 = .ok (.iload_n 2, 1) := by decide +kernel
theorem dX9_goOn_98 : decode cX9_goOn 98 = .ok (.bipush 6, 2) := by decide +kernel
theorem dX9_goOn_100 : decode cX9_goOn 100 = .ok (.iadd, 1) := by decide +kernel
theorem dX9_goOn_101 : decode cX9_goOn 101 = .ok (.iaload, 1) := by decide +kernel
theorem dX9_goOn_102 : decode cX9_goOn 102 = .ok (.bipush 17, 2) := by decide +kernel
theorem dX9_goOn_104 : decode cX9_goOn 104 = .ok (.if_icmp .ne 47, 3) := by decide +kernel
theorem dX9_goOn_107 : decode cX9_goOn 107 = .ok (.aload_n 0, 1) := by decide +kernel
theorem dX9_goOn_108 : decode cX9_goOn 108 = .ok (.getfield 7, 3) := by decide +kernel
theorem dX9_goOn_111 : decode cX9_goOn 111 = .ok (.iload_n 2, 1) := by decide +kernel
theorem dX9_goOn_112 : decode cX9_goOn 112 = .ok (.bipush 6, 2) := by decide +kernel
theorem dX9_goOn_114 : decode cX9_goOn 114 = .ok (.iadd, 1) := by decide +kernel
theorem dX9_goOn_115 : decode cX9_goOn 115 = .ok (.iconst 0, 1) := by decide +kernel
theorem dX9_goOn_116 : decode cX9_goOn 116 = .ok (.iastore, 1) := by decide +kernel
theorem dX9_goOn_117 : decode cX9_goOn 117 = .ok (.aload_n 0, 1) := by decide +kernel
theorem dX9_goOn_118 : decode cX9_goOn 118 = .ok (.getfield 7, 3) := by decide +kernel
theorem dX9_goOn_121 : decode cX9_goOn 121 = .ok (.iload_n 2, 1) := by decide +kernel
theorem dX9_goOn_122 : decode cX9_goOn 122 = .ok (.iconst 5, 1) := by decide +kernel
theorem dX9_goOn_123 : decode cX9_goOn 123 = .ok (.iadd, 1) := by decide +kernel
theorem dX9_goOn_124 : decode cX9_goOn 124 = .ok (.dup2, 1) := by decide +kernel
theorem dX9_goOn_125 : decode cX9_goOn 125 = .ok (.iaload, 1) := by decide +kernel
theorem dX9_goOn_126 : decode cX9_goOn 126 = .ok (.iconst 1, 1) := by decide +kernel
theorem dX9_goOn_127 : decode cX9_goOn 127 = .ok (.iadd, 1) := by decide +kernel
theorem dX9_goOn_128 : decode cX9_goOn 128 = .ok (.iastore, 1) := by decide +kernel
theorem dX9_goOn_129 : decode cX9_goOn 129 = .ok (.aload_n 0, 1) := by decide +kernel
theorem dX9_goOn_130 : decode cX9_goOn 130 = .ok (.getfield 7, 3) := by decide +kernel
theorem dX9_goOn_133 : decode cX9_goOn 133 = .ok (.iload_n 2, 1) := by decide +kernel
theorem dX9_goOn_134 : decode cX9_goOn 134 = .ok (.iconst 5, 1) := by decide +kernel
theorem dX9_goOn_135 : decode cX9_goOn 135 = .ok (.iadd, 1) := by decide +kernel
theorem dX9_goOn_136 : decode cX9_goOn 136 = .ok (.iaload, 1) := by decide +kernel
theorem dX9_goOn_137 : decode cX9_goOn 137 = .ok (.aload_n 0, 1) := by decide +kernel
theorem dX9_goOn_138 : decode cX9_goOn 138 = .ok (.getfield 7, 3) := by decide +kernel
theorem dX9_goOn_141 : decode cX9_goOn 141 = .ok (.iconst 3, 1) := by decide +kernel
theorem dX9_goOn_142 : decode cX9_goOn 142 = .ok (.iaload, 1) := by decide +kernel
theorem dX9_goOn_143 : decode cX9_goOn 143 = .ok (.if_icmp .lt 8, 3) := by decide +kernel
theorem dX9_goOn_146 : decode cX9_goOn 146 = .ok (.aload_n 0, 1) := by decide +kernel
theorem dX9_goOn_147 : decode cX9_goOn 147 = .ok (.iload_n 2, 1) := by decide +kernel
theorem dX9_goOn_148 : decode cX9_goOn 148 = .ok (.invokevirtual 84, 3) := by decide +kernel
theorem dX9_goOn_151 : decode cX9_goOn 151 = .ok (.return_, 1) := by decide +kernel
set_option maxRecDepth 20000 in
theorem ggX9_isOf_X9_isLamp : GoodIn wsX9_isOf wsX9_isLamp := goodIn_r _ [6, 1, 7, 8, 5, 9, 10, 11, 12, 13, 14, 15, 16, 17, 18, 19, 20, 21, 22, 23, 24, 25, 26, 27] (by decide +kernel) (by decide +kernel)
set_option maxRecDepth 20000 in
theorem gX9_isOf_X9_isLamp : GoodIn wsX9_isOf (wsV RX9 88 RX9 yX9_isLamp wsX9_isLamp) := goodIn_app (goodIn_of _ (by decide +kernel)) ggX9_isOf_X9_isLamp
set_option maxRecDepth 20000 in
theorem ggX9_isOf_X9_l : GoodIn wsX9_isOf wsX9_l := goodIn_r _ [12] (by decide +kernel) (by decide +kernel)
set_option maxRecDepth 20000 in
theorem gX9_isOf_X9_l : GoodIn wsX9_isOf (va_wsS RX9 56 yX9_l wsX9_l) := goodIn_app (goodIn_of _ (by decide +kernel)) ggX9_isOf_X9_l
theorem dX9_isOf_0 : decode cX9_isOf 0 = .ok (.aload_n 0, 1) := by decide +kernel
theorem dX9_isOf_1 : decode cX9_isOf 1 = .ok (.iload_n 1, 1) := by decide +kernel
theorem dX9_isOf_2 : decode cX9_isOf 2 = .ok (.invokevirtual 88, 3) := by decide +kernel
theorem dX9_isOf_5 : decode cX9_isOf 5 = .ok (.ifCond .eq 37, 3) := by decide +kernel
theorem dX9_isOf_8 : decode cX9_isOf 8 = .ok (.aload_n 0, 1) := by decide +kernel
theorem dX9_isOf_9 : decode cX9_isOf 9 = .ok (.getfield 7, 3) := by decide +kernel
theorem dX9_isOf_12 : decode cX9_isOf 12 = .ok (.iload_n 1, 1) := by decide +kernel
theorem dX9_isOf_13 : decode cX9_isOf 13 = .ok (.invokestatic 56, 3) := by decide +kernel
theorem dX9_isOf_16 : decode cX9_isOf 16 = .ok (.iconst 1, 1) := by decide +kernel
theorem dX9_isOf_17 : decode cX9_isOf 17 = .ok (.iadd, 1) := by decide +kernel
theorem dX9_isOf_18 : decode cX9_isOf 18 = .ok (.iaload, 1) := by decide +kernel
theorem dX9_isOf_19 : decode cX9_isOf 19 = .ok (.iload_n 2, 1) := by decide +kernel
theorem dX9_isOf_20 : decode cX9_isOf 20 = .ok (.if_icmp .ne 22, 3) := by decide +kernel
theorem dX9_isOf_23 : decode cX9_isOf 23 = .ok (.aload_n 0, 1) := by decide +kernel
theorem dX9_isOf_24 : decode cX9_isOf 24 = .ok (.getfield 7, 3) := by decide +kernel
theorem dX9_isOf_27 : decode cX9_isOf 27 = .ok (.iload_n 1, 1) := by decide +kernel
theorem dX9_isOf_28 : decode cX9_isOf 28 = .ok (.invokestatic 56, 3) := by decide +kernel
theorem dX9_isOf_31 : decode cX9_isOf 31 = .ok (.iconst 2, 1) := by decide +kernel
theorem dX9_isOf_32 : decode cX9_isOf 32 = .ok (.iadd, 1) := by decide +kernel
theorem dX9_isOf_33 : decode cX9_isOf 33 = .ok (.iaload, 1) := by decide +kernel
theorem dX9_isOf_34 : decode cX9_isOf 34 = .ok (.iload_n 3, 1) := by decide +kernel
theorem dX9_isOf_35 : decode cX9_isOf 35 = .ok (.if_icmp .ne 7, 3) := by decide +kernel
theorem dX9_isOf_38 : decode cX9_isOf 38 = .ok (.iconst 1, 1) := by decide +kernel
theorem dX9_isOf_39 : decode cX9_isOf 39 = .ok (.goto 4, 3) := by decide +kernel
theorem dX9_isOf_42 : decode cX9_isOf 42 = .ok (.iconst 0, 1) := by decide +kernel
theorem dX9_isOf_43 : decode cX9_isOf 43 = .ok (.ireturn, 1) := by decide +kernel
set_option maxRecDepth 20000 in
theorem ggX9_act_X9_r : GoodIn wsX9_act wsX9_r := goodIn_r _ [5] (by decide +kernel) (by decide +kernel)
set_option maxRecDepth 20000 in
theorem gX9_act_X9_r : GoodIn wsX9_act (va_wsS RX9 42 yX9_r wsX9_r) := goodIn_app (goodIn_of _ (by decide +kernel)) ggX9_act_X9_r
set_option maxRecDepth 20000 in
theorem ggX9_act_X9_l : GoodIn wsX9_act wsX9_l := goodIn_r _ [8] (by decide +kernel) (by decide +kernel)
set_option maxRecDepth 20000 in
theorem gX9_act_X9_l : GoodIn wsX9_act (va_wsS RX9 56 yX9_l wsX9_l) := goodIn_app (goodIn_of _ (by decide +kernel)) ggX9_act_X9_l
set_option maxRecDepth 20000 in
theorem ggX9_act_X9_isOf : GoodIn wsX9_act wsX9_isOf := goodIn_r _ [12, 1, 13, 14, 15, 4, 16, 17, 18, 19, 6, 7, 8, 20, 21, 22, 23, 24, 25, 26, 27, 28, 29, 30, 31, 32, 33, 34] (by decide +kernel) (by decide +kernel)
set_option maxRecDepth 20000 in
theorem gX9_act_X9_isOf : GoodIn wsX9_act (wsV RX9 91 RX9 yX9_isOf wsX9_isOf) := goodIn_app (goodIn_of _ (by decide +kernel)) ggX9_act_X9_isOf
theorem dX9_act_0 : decode cX9_act 0 = .ok (.iload_n 2, 1) := by decide +kernel
theorem dX9_act_1 : decode cX9_act 1 = .ok (.bipush 8, 2) := by decide +kernel
theorem dX9_act_3 : decode cX9_act 3 = .ok (.idiv, 1) := by decide +kernel
theorem dX9_act_4 : decode cX9_act 4 = .ok (.istore_n 3, 1) := by decide +kernel
theorem dX9_act_5 : decode cX9_act 5 = .ok (.iload_n 2, 1) := by decide +kernel
theorem dX9_act_6 : decode cX9_act 6 = .ok (.bipush 8, 2) := by decide +kernel
theorem dX9_act_8 : decode cX9_act 8 = .ok (.irem, 1) := by decide +kernel
theorem dX9_act_9 : decode cX9_act 9 = .ok (.istore 4, 2) := by decide +kernel
theorem dX9_act_11 : decode cX9_act 11 = .ok (.iload 4, 2) := by decide +kernel
theorem dX9_act_13 : decode cX9_act 13 = .ok (.iconst 4, 1) := by decide +kernel
theorem dX9_act_14 : decode cX9_act 14 = .ok (.if_icmp .ge 26, 3) := by decide +kernel
theorem dX9_act_17 : decode cX9_act 17 = .ok (.aload_n 0, 1) := by decide +kernel
theorem dX9_act_18 : decode cX9_act 18 = .ok (.getfield 7, 3) := by decide +kernel
theorem dX9_act_21 : decode cX9_act 21 = .ok (.iload_n 1, 1) := by decide +kernel
theorem dX9_act_22 : decode cX9_act 22 = .ok (.invokestatic 42, 3) := by decide +kernel
theorem dX9_act_25 : decode cX9_act 25 = .ok (.bipush 6, 2) := by decide +kernel
theorem dX9_act_27 : decode cX9_act 27 = .ok (.iadd, 1) := by decide +kernel
theorem dX9_act_28 : decode cX9_act 28 = .ok (.iaload, 1) := by decide +kernel
theorem dX9_act_29 : decode cX9_act 29 = .ok (.iload_n 3, 1) := by decide +kernel
theorem dX9_act_30 : decode cX9_act 30 = .ok (.ishr, 1) := by decide +kernel
theorem dX9_act_31 : decode cX9_act 31 = .ok (.iconst 1, 1) := by decide +kernel
theorem dX9_act_32 : decode cX9_act 32 = .ok (.iand, 1) := by decide +kernel
theorem dX9_act_33 : decode cX9_act 33 = .ok (.ifCond .ne 7, 3) := by decide +kernel
theorem dX9_act_36 : decode cX9_act 36 = .ok (.iconst 1, 1) := by decide +kernel
theorem dX9_act_37 : decode cX9_act 37 = .ok (.goto 4, 3) := by decide +kernel
theorem dX9_act_40 : decode cX9_act 40 = .ok (.iconst 0, 1) := by decide +kernel
theorem dX9_act_41 : decode cX9_act 41 = .ok (.istore 5, 2) := by decide +kernel
theorem dX9_act_43 : decode cX9_act 43 = .ok (.iconst 0, 1) := by decide +kernel
theorem dX9_act_44 : decode cX9_act 44 = .ok (.istore 6, 2) := by decide +kernel
theorem dX9_act_46 : decode cX9_act 46 = .ok (.iload 6, 2) := by decide +kernel
theorem dX9_act_48 : decode cX9_act 48 = .ok (.bipush 8, 2) := by decide +kernel
theorem dX9_act_50 : decode cX9_act 50 = .ok (.if_icmp .ge 174, 3) := by decide +kernel
theorem dX9_act_53 : decode cX9_act 53 = .ok (.iload 6, 2) := by decide +kernel
theorem dX9_act_55 : decode cX9_act 55 = .ok (.invokestatic 56, 3) := by decide +kernel
theorem dX9_act_58 : decode cX9_act 58 = .ok (.istore 7, 2) := by decide +kernel
theorem dX9_act_60 : decode cX9_act 60 = .ok (.aload_n 0, 1) := by decide +kernel
theorem dX9_act_61 : decode cX9_act 61 = .ok (.iload 6, 2) := by decide +kernel
theorem dX9_act_63 : decode cX9_act 63 = .ok (.iload_n 1, 1) := by decide +kernel
theorem dX9_act_64 : decode cX9_act 64 = .ok (.iload_n 3, 1) := by decide +kernel
theorem dX9_act_65 : decode cX9_act 65 = .ok (.invokevirtual 91, 3) := by decide +kernel
theorem dX9_act_68 : decode cX9_act 68 = .ok (.ifCond .eq 150, 3) := by decide +kernel
theorem dX9_act_71 : decode cX9_act 71 = .ok (.iload 4, 2) := by decide +kernel
theorem dX9_act_73 : decode cX9_act 73 = .ok (.iconst 4, 1) := by decide +kernel
theorem dX9_act_74 : decode cX9_act 74 = .ok (.if_icmp .ge 51, 3) := by decide +kernel
theorem dX9_act_77 : decode cX9_act 77 = .ok (.aload_n 0, 1) := by decide +kernel
theorem dX9_act_78 : decode cX9_act 78 = .ok (.getfield 7, 3) := by decide +kernel
theorem dX9_act_81 : decode cX9_act 81 = .ok (.iload 7, 2) := by decide +kernel
theorem dX9_act_83 : decode cX9_act 83 = .ok (.iconst 5, 1) := by decide +kernel
theorem dX9_act_84 : decode cX9_act 84 = .ok (.iadd, 1) := by decide +kernel
theorem dX9_act_85 : decode cX9_act 85 = .ok (.aload_n 0, 1) := by decide +kernel
theorem dX9_act_86 : decode cX9_act 86 = .ok (.getfield 7, 3) := by decide +kernel
theorem dX9_act_89 : decode cX9_act 89 = .ok (.iload 7, 2) := by decide +kernel
theorem dX9_act_91 : decode cX9_act 91 = .ok (.iconst 3, 1) := by decide +kernel
theorem dX9_act_92 : decode cX9_act 92 = .ok (.iadd, 1) := by decide +kernel
theorem dX9_act_93 : decode cX9_act 93 = .ok (.iaload, 1) := by decide +kernel
theorem dX9_act_94 : decode cX9_act 94 = .ok (.iload 4, 2) := by decide +kernel
theorem dX9_act_96 : decode cX9_act 96 = .ok (.if_icmp .ne 7, 3) := by decide +kernel
theorem dX9_act_99 : decode cX9_act 99 = .ok (.iconst 1, 1) := by decide +kernel
theorem dX9_act_100 : decode cX9_act 100 = .ok (.goto 21, 3) := by decide +kernel
theorem dX9_act_103 : decode cX9_act 103 = .ok (.iload 5, 2) := by decide +kernel
theorem dX9_act_105 : decode cX9_act 105 = .ok (.ifCond .eq 7, 3) := by decide +kernel
theorem dX9_act_108 : decode cX9_act 108 = .ok (.iconst 0, 1) := by decide +kernel
theorem dX9_act_109 : decode cX9_act 109 = .ok (.goto 12, 3) := by decide +kernel
theorem dX9_act_112 : decode cX9_act 112 = .ok (.aload_n 0, 1) := by decide +kernel
theorem dX9_act_113 : decode cX9_act 113 = .ok (.getfield 7, 3) := by decide +kernel
theorem dX9_act_116 : decode cX9_act 116 = .ok (.iload 7, 2) := by decide +kernel
theorem dX9_act_118 : decode cX9_act 118 = .ok (.iconst 5, 1) := by decide +kernel
theorem dX9_act_119 : decode cX9_act 119 = .ok (.iadd, 1) := by decide +kernel
theorem dX9_act_120 : decode cX9_act 120 = .ok (.iaload, 1) := by decide +kernel
theorem dX9_act_121 : decode cX9_act 121 = .ok (.iastore, 1) := by decide +kernel
theorem dX9_act_122 : decode cX9_act 122 = .ok (.goto 96, 3) := by decide +kernel
theorem dX9_act_125 : decode cX9_act 125 = .ok (.iload 4, 2) := by decide +kernel
theorem dX9_act_127 : decode cX9_act 127 = .ok (.bipush 7, 2) := by decide +kernel
theorem dX9_act_129 : decode cX9_act 129 = .ok (.if_icmp .ne 16, 3) := by decide +kernel
theorem dX9_act_132 : decode cX9_act 132 = .ok (.aload_n 0, 1) := by decide +kernel
theorem dX9_act_133 : decode cX9_act 133 = .ok (.getfield 7, 3) := by decide +kernel
theorem dX9_act_136 : decode cX9_act 136 = .ok (.iload 7, 2) := by decide +kernel
theorem dX9_act_138 : decode cX9_act 138 = .ok (.iconst 4, 1) := by decide +kernel
theorem dX9_act_139 : decode cX9_act 139 = .ok (.iadd, 1) := by decide +kernel
theorem dX9_act_140 : decode cX9_act 140 = .ok (.iconst 0, 1) := by decide +kernel
theorem dX9_act_141 : decode cX9_act 141 = .ok (.iastore, 1) := by decide +kernel
theorem dX9_act_142 : decode cX9_act 142 = .ok (.goto 76, 3) := by decide +kernel
theorem dX9_act_145 : decode cX9_act 145 = .ok (.aload_n 0, 1) := by decide +kernel
theorem dX9_act_146 : decode cX9_act 146 = .ok (.getfield 7, 3) := by decide +kernel
theorem dX9_act_149 : decode cX9_act 149 = .ok (.iload 7, 2) := by decide +kernel
theorem dX9_act_151 : decode cX9_act 151 = .ok (.iconst 5, 1) := by decide +kernel
theorem dX9_act_152 : decode cX9_act 152 = .ok (.iadd, 1) := by decide +kernel
theorem dX9_act_153 : decode cX9_act 153 = .ok (.iaload, 1) := by decide +kernel
theorem dX9_act_154 : decode cX9_act 154 = .ok (.iconst 1, 1) := by decide +kernel
theorem dX9_act_155 : decode cX9_act 155 = .ok (.if_icmp .ne 63, 3) := by decide +kernel
theorem dX9_act_158 : decode cX9_act 158 = .ok (.aload_n 0, 1) := by decide +kernel
theorem dX9_act_159 : decode cX9_act 159 = .ok (.getfield 7, 3) := by decide +kernel
theorem dX9_act_162 : decode cX9_act 162 = .ok (.iload 7, 2) := by decide +kernel
theorem dX9_act_164 : decode cX9_act 164 = .ok (.iconst 4, 1) := by decide +kernel
theorem dX9_act_165 : decode cX9_act 165 = .ok (.iadd, 1) := by decide +kernel
theorem dX9_act_166 : decode cX9_act 166 = .ok (.iload 4, 2) := by decide +kernel
theorem dX9_act_168 : decode cX9_act 168 = .ok (.iconst 4, 1) := by decide +kernel
theorem dX9_act_169 : decode cX9_act 169 = .ok (.if_icmp .ne 8, 3) := by decide +kernel
theorem dX9_act_172 : decode cX9_act 172 = .ok (.bipush 9, 2) := by decide +kernel
theorem dX9_act_174 : decode cX9_act 174 = .ok (.goto 43, 3) := by decide +kernel
theorem dX9_act_177 : decode cX9_act 177 = .ok (.iload 4, 2) := by decide +kernel
theorem dX9_act_179 : decode cX9_act 179 = .ok (.iconst 5, 1) := by decide +kernel
theorem dX9_act_180 : decode cX9_act 180 = .ok (.if_icmp .ne 7, 3) := by decide +kernel
theorem dX9_act_183 : decode cX9_act 183 = .ok (.iconst 0, 1) := by decide +kernel
theorem dX9_act_184 : decode cX9_act 184 = .ok (.goto 33, 3) := by decide +kernel
