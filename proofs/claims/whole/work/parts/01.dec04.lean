theorem dX9_perform_49 : decode cX9_perform 49 = .ok (.getfield 35, 3) := by decide +kernel
theorem dX9_perform_52 : decode cX9_perform 52 = .ok (.iconst 2, 1) := by decide +kernel
theorem dX9_perform_53 : decode cX9_perform 53 = .ok (.iload_n 2, 1) := by decide +kernel
theorem dX9_perform_54 : decode cX9_perform 54 = .ok (.imul, 1) := by decide +kernel
theorem dX9_perform_55 : decode cX9_perform 55 = .ok (.iconst 1, 1) := by decide +kernel
theorem dX9_perform_56 : decode cX9_perform 56 = .ok (.iadd, 1) := by decide +kernel
theorem dX9_perform_57 : decode cX9_perform 57 = .ok (.iaload, 1) := by decide +kernel
theorem dX9_perform_58 : decode cX9_perform 58 = .ok (.invokevirtual 138, 3) := by decide +kernel
theorem dX9_perform_61 : decode cX9_perform 61 = .ok (.goto 25, 3) := by decide +kernel
theorem dX9_perform_64 : decode cX9_perform 64 = .ok (.aload_n 0, 1) := by decide +kernel
theorem dX9_perform_65 : decode cX9_perform 65 = .ok (.aload_n 0, 1) := by decide +kernel
theorem dX9_perform_66 : decode cX9_perform 66 = .ok (.getfield 35, 3) := by decide +kernel
theorem dX9_perform_69 : decode cX9_perform 69 = .ok (.iconst 2, 1) := by decide +kernel
theorem dX9_perform_70 : decode cX9_perform 70 = .ok (.iload_n 2, 1) := by decide +kernel
theorem dX9_perform_71 : decode cX9_perform 71 = .ok (.imul, 1) := by decide +kernel
theorem dX9_perform_72 : decode cX9_perform 72 = .ok (.iaload, 1) := by decide +kernel
theorem dX9_perform_73 : decode cX9_perform 73 = .ok (.aload_n 0, 1) := by decide +kernel
theorem dX9_perform_74 : decode cX9_perform 74 = .ok (.getfield 35, 3) := by decide +kernel
theorem dX9_perform_77 : decode cX9_perform 77 = .ok (.iconst 2, 1) := by decide +kernel
theorem dX9_perform_78 : decode cX9_perform 78 = .ok (.iload_n 2, 1) := by decide +kernel
theorem dX9_perform_79 : decode cX9_perform 79 = .ok (.imul, 1) := by decide +kernel
theorem dX9_perform_80 : decode cX9_perform 80 = .ok (.iconst 1, 1) := by decide +kernel
theorem dX9_perform_81 : decode cX9_perform 81 = .ok (.iadd, 1) := by decide +kernel
theorem dX9_perform_82 : decode cX9_perform 82 = .ok (.iaload, 1) := by decide +kernel
theorem dX9_perform_83 : decode cX9_perform 83 = .ok (.invokevirtual 135, 3) := by decide +kernel
theorem dX9_perform_86 : decode cX9_perform 86 = .ok (.istore 4, 2) := by decide +kernel
theorem dX9_perform_88 : decode cX9_perform 88 = .ok (.iload 4, 2) := by decide +kernel
theorem dX9_perform_90 : decode cX9_perform 90 = .ok (.ifCond .lt 7, 3) := by decide +kernel
theorem dX9_perform_93 : decode cX9_perform 93 = .ok (.iconst 1, 1) := by decide +kernel
theorem dX9_perform_94 : decode cX9_perform 94 = .ok (.goto 4, 3) := by decide +kernel
theorem dX9_perform_97 : decode cX9_perform 97 = .ok (.iconst 0, 1) := by decide +kernel
theorem dX9_perform_98 : decode cX9_perform 98 = .ok (.istore_n 3, 1) := by decide +kernel
theorem dX9_perform_99 : decode cX9_perform 99 = .ok (.iload_n 2, 1) := by decide +kernel
theorem dX9_perform_100 : decode cX9_perform 100 = .ok (.iload_n 3, 1) := by decide +kernel
theorem dX9_perform_101 : decode cX9_perform 101 = .ok (.ifCond .eq 7, 3) := by decide +kernel
theorem dX9_perform_104 : decode cX9_perform 104 = .ok (.iconst 1, 1) := by decide +kernel
theorem dX9_perform_105 : decode cX9_perform 105 = .ok (.goto 4, 3) := by decide +kernel
theorem dX9_perform_108 : decode cX9_perform 108 = .ok (.iconst 0, 1) := by decide +kernel
theorem dX9_perform_109 : decode cX9_perform 109 = .ok (.iadd, 1) := by decide +kernel
theorem dX9_perform_110 : decode cX9_perform 110 = .ok (.istore_n 2, 1) := by decide +kernel
theorem dX9_perform_111 : decode cX9_perform 111 = .ok (.goto (-89), 3) := by decide +kernel
theorem dX9_perform_114 : decode cX9_perform 114 = .ok (.aload_n 0, 1) := by decide +kernel
theorem dX9_perform_115 : decode cX9_perform 115 = .ok (.iload_n 2, 1) := by decide +kernel
theorem dX9_perform_116 : decode cX9_perform 116 = .ok (.invokevirtual 132, 3) := by decide +kernel
theorem dX9_perform_119 : decode cX9_perform 119 = .ok (.ireturn, 1) := by decide +kernel
theorem dX9_undo_0 : decode cX9_undo 0 = .ok (.aload_n 0, 1) := by decide +kernel
theorem dX9_undo_1 : decode cX9_undo 1 = .ok (.getfield 59, 3) := by decide +kernel
theorem dX9_undo_4 : decode cX9_undo 4 = .ok (.ifCond .ne 6, 3) := by decide +kernel
theorem dX9_undo_7 : decode cX9_undo 7 = .ok (.bipush (-5), 2) := by decide +kernel
theorem dX9_undo_9 : decode cX9_undo 9 = .ok (.ireturn, 1) := by decide +kernel
theorem dX9_undo_10 : decode cX9_undo 10 = .ok (.aload_n 0, 1) := by decide +kernel
theorem dX9_undo_11 : decode cX9_undo 11 = .ok (.dup, 1) := by decide +kernel
theorem dX9_undo_12 : decode cX9_undo 12 = .ok (.getfield 59, 3) := by decide +kernel
theorem dX9_undo_15 : decode cX9_undo 15 = .ok (.iconst 1, 1) := by decide +kernel
theorem dX9_undo_16 : decode cX9_undo 16 = .ok (.isub, 1) := by decide +kernel
theorem dX9_undo_17 : decode cX9_undo 17 = .ok (.putfield 59, 3) := by decide +kernel
theorem dX9_undo_20 : decode cX9_undo 20 = .ok (.iconst 0, 1) := by decide +kernel
theorem dX9_undo_21 : decode cX9_undo 21 = .ok (.istore_n 1, 1) := by decide +kernel
theorem dX9_undo_22 : decode cX9_undo 22 = .ok (.iload_n 1, 1) := by decide +kernel
theorem dX9_undo_23 : decode cX9_undo 23 = .ok (.sipush 190, 3) := by decide +kernel
theorem dX9_undo_26 : decode cX9_undo 26 = .ok (.if_icmp .ge 30, 3) := by decide +kernel
theorem dX9_undo_29 : decode cX9_undo 29 = .ok (.aload_n 0, 1) := by decide +kernel
theorem dX9_undo_30 : decode cX9_undo 30 = .ok (.getfield 7, 3) := by decide +kernel
theorem dX9_undo_33 : decode cX9_undo 33 = .ok (.iload_n 1, 1) := by decide +kernel
theorem dX9_undo_34 : decode cX9_undo 34 = .ok (.aload_n 0, 1) := by decide +kernel
theorem dX9_undo_35 : decode cX9_undo 35 = .ok (.getfield 19, 3) := by decide +kernel
theorem dX9_undo_38 : decode cX9_undo 38 = .ok (.sipush 190, 3) := by decide +kernel
theorem dX9_undo_41 : decode cX9_undo 41 = .ok (.aload_n 0, 1) := by decide +kernel
theorem dX9_undo_42 : decode cX9_undo 42 = .ok (.getfield 59, 3) := by decide +kernel
theorem dX9_undo_45 : decode cX9_undo 45 = .ok (.imul, 1) := by decide +kernel
theorem dX9_undo_46 : decode cX9_undo 46 = .ok (.iload_n 1, 1) := by decide +kernel
theorem dX9_undo_47 : decode cX9_undo 47 = .ok (.iadd, 1) := by decide +kernel
theorem dX9_undo_48 : decode cX9_undo 48 = .ok (.iaload, 1) := by decide +kernel
theorem dX9_undo_49 : decode cX9_undo 49 = .ok (.iastore, 1) := by decide +kernel
theorem dX9_undo_50 : decode cX9_undo 50 = .ok (.iinc 1 1, 3) := by decide +kernel
theorem dX9_undo_53 : decode cX9_undo 53 = .ok (.goto (-31), 3) := by decide +kernel
theorem dX9_undo_56 : decode cX9_undo 56 = .ok (.aload_n 0, 1) := by decide +kernel
theorem dX9_undo_57 : decode cX9_undo 57 = .ok (.getfield 59, 3) := by decide +kernel
theorem dX9_undo_60 : decode cX9_undo 60 = .ok (.ireturn, 1) := by decide +kernel
theorem dX9_save_0 : decode cX9_save 0 = .ok (.iconst 0, 1) := by decide +kernel
theorem dX9_save_1 : decode cX9_save 1 = .ok (.istore_n 1, 1) := by decide +kernel
theorem dX9_save_2 : decode cX9_save 2 = .ok (.iload_n 1, 1) := by decide +kernel
theorem dX9_save_3 : decode cX9_save 3 = .ok (.sipush 190, 3) := by decide +kernel
theorem dX9_save_6 : decode cX9_save 6 = .ok (.if_icmp .ge 21, 3) := by decide +kernel
theorem dX9_save_9 : decode cX9_save 9 = .ok (.aload_n 0, 1) := by decide +kernel
theorem dX9_save_10 : decode cX9_save 10 = .ok (.getfield 22, 3) := by decide +kernel
theorem dX9_save_13 : decode cX9_save 13 = .ok (.iload_n 1, 1) := by decide +kernel
theorem dX9_save_14 : decode cX9_save 14 = .ok (.aload_n 0, 1) := by decide +kernel
theorem dX9_save_15 : decode cX9_save 15 = .ok (.getfield 7, 3) := by decide +kernel
theorem dX9_save_18 : decode cX9_save 18 = .ok (.iload_n 1, 1) := by decide +kernel
theorem dX9_save_19 : decode cX9_save 19 = .ok (.iaload, 1) := by decide +kernel
theorem dX9_save_20 : decode cX9_save 20 = .ok (.iastore, 1) := by decide +kernel
theorem dX9_save_21 : decode cX9_save 21 = .ok (.iinc 1 1, 3) := by decide +kernel
theorem dX9_save_24 : decode cX9_save 24 = .ok (.goto (-22), 3) := by decide +kernel
theorem dX9_save_27 : decode cX9_save 27 = .ok (.aload_n 0, 1) := by decide +kernel
theorem dX9_save_28 : decode cX9_save 28 = .ok (.iconst 1, 1) := by decide +kernel
theorem dX9_save_29 : decode cX9_save 29 = .ok (.putfield 178, 3) := by decide +kernel
theorem dX9_save_32 : decode cX9_save 32 = .ok (.aload_n 0, 1) := by decide +kernel
theorem dX9_save_33 : decode cX9_save 33 = .ok (.getfield 7, 3) := by decide +kernel
theorem dX9_save_36 : decode cX9_save 36 = .ok (.iconst 4, 1) := by decide +kernel
theorem dX9_save_37 : decode cX9_save 37 = .ok (.iaload, 1) := by decide +kernel
theorem dX9_save_38 : decode cX9_save 38 = .ok (.ireturn, 1) := by decide +kernel
set_option maxRecDepth 20000 in
theorem ggX9_restore_X9_hold : GoodIn wsX9_restore wsX9_hold := goodIn_r _ [8, 9, 2, 16, 17, 18, 19, 20, 21, 22, 23, 24, 25, 26, 27, 28, 29, 30] (by decide +kernel) (by decide +kernel)
set_option maxRecDepth 20000 in
theorem gX9_restore_X9_hold : GoodIn wsX9_restore (wsV RX9 125 RX9 yX9_hold wsX9_hold) := goodIn_app (goodIn_of _ (by decide +kernel)) ggX9_restore_X9_hold
set_option maxRecDepth 20000 in
theorem ggX9_restore_X9_recorded : GoodIn wsX9_restore wsX9_recorded := goodIn_r _ [13, 14, 15, 9, 16, 17, 18, 19, 20, 21, 22, 23, 24, 25, 26, 27, 28, 29, 30] (by decide +kernel) (by decide +kernel)
set_option maxRecDepth 20000 in
theorem gX9_restore_X9_recorded : GoodIn wsX9_restore (wsV RX9 132 RX9 yX9_recorded wsX9_recorded) := goodIn_app (goodIn_of _ (by decide +kernel)) ggX9_restore_X9_recorded
theorem dX9_restore_0 : decode cX9_restore 0 = .ok (.aload_n 0, 1) := by decide +kernel
theorem dX9_restore_1 : decode cX9_restore 1 = .ok (.getfield 178, 3) := by decide +kernel
theorem dX9_restore_4 : decode cX9_restore 4 = .ok (.ifCond .ne 6, 3) := by decide +kernel
theorem dX9_restore_7 : decode cX9_restore 7 = .ok (.bipush (-4), 2) := by decide +kernel
theorem dX9_restore_9 : decode cX9_restore 9 = .ok (.ireturn, 1) := by decide +kernel
theorem dX9_restore_10 : decode cX9_restore 10 = .ok (.aload_n 0, 1) := by decide +kernel
theorem dX9_restore_11 : decode cX9_restore 11 = .ok (.invokevirtual 125, 3) := by decide +kernel
theorem dX9_restore_14 : decode cX9_restore 14 = .ok (.iconst 0, 1) := by decide +kernel
theorem dX9_restore_15 : decode cX9_restore 15 = .ok (.istore_n 1, 1) := by decide +kernel
theorem dX9_restore_16 : decode cX9_restore 16 = .ok (.iload_n 1, 1) := by decide +kernel
theorem dX9_restore_17 : decode cX9_restore 17 = .ok (.sipush 190, 3) := by decide +kernel
theorem dX9_restore_20 : decode cX9_restore 20 = .ok (.if_icmp .ge 21, 3) := by decide +kernel
theorem dX9_restore_23 : decode cX9_restore 23 = .ok (.aload_n 0, 1) := by decide +kernel
theorem dX9_restore_24 : decode cX9_restore 24 = .ok (.getfield 7, 3) := by decide +kernel
theorem dX9_restore_27 : decode cX9_restore 27 = .ok (.iload_n 1, 1) := by decide +kernel
theorem dX9_restore_28 : decode cX9_restore 28 = .ok (.aload_n 0, 1) := by decide +kernel
theorem dX9_restore_29 : decode cX9_restore 29 = .ok (.getfield 22, 3) := by decide +kernel
theorem dX9_restore_32 : decode cX9_restore 32 = .ok (.iload_n 1, 1) := by decide +kernel
theorem dX9_restore_33 : decode cX9_restore 33 = .ok (.iaload, 1) := by decide +kernel
theorem dX9_restore_34 : decode cX9_restore 34 = .ok (.iastore, 1) := by decide +kernel
theorem dX9_restore_35 : decode cX9_restore 35 = .ok (.iinc 1 1, 3) := by decide +kernel
theorem dX9_restore_38 : decode cX9_restore 38 = .ok (.goto (-22), 3) := by decide +kernel
theorem dX9_restore_41 : decode cX9_restore 41 = .ok (.aload_n 0, 1) := by decide +kernel
theorem dX9_restore_42 : decode cX9_restore 42 = .ok (.aload_n 0, 1) := by decide +kernel
theorem dX9_restore_43 : decode cX9_restore 43 = .ok (.getfield 7, 3) := by decide +kernel
theorem dX9_restore_46 : decode cX9_restore 46 = .ok (.iconst 4, 1) := by decide +kernel
theorem dX9_restore_47 : decode cX9_restore 47 = .ok (.iaload, 1) := by decide +kernel
theorem dX9_restore_48 : decode cX9_restore 48 = .ok (.invokevirtual 132, 3) := by decide +kernel
theorem dX9_restore_51 : decode cX9_restore 51 = .ok (.ireturn, 1) := by decide +kernel
set_option maxRecDepth 20000 in
theorem ggX9_senderOf_X9_isSender : GoodIn wsX9_senderOf wsX9_isSender := goodIn_r _ [6, 1, 7, 8, 5, 9, 10, 11, 12, 20, 21, 22, 23, 24, 25, 26, 27, 28, 29, 30, 31, 32, 33, 34] (by decide +kernel) (by decide +kernel)
set_option maxRecDepth 20000 in
theorem gX9_senderOf_X9_isSender : GoodIn wsX9_senderOf (wsV RX9 67 RX9 yX9_isSender wsX9_isSender) := goodIn_app (goodIn_of _ (by decide +kernel)) ggX9_senderOf_X9_isSender
set_option maxRecDepth 20000 in
theorem ggX9_senderOf_X9_n : GoodIn wsX9_senderOf wsX9_n := goodIn_r _ [12] (by decide +kernel) (by decide +kernel)
set_option maxRecDepth 20000 in
theorem gX9_senderOf_X9_n : GoodIn wsX9_senderOf (va_wsS RX9 50 yX9_n wsX9_n) := goodIn_app (goodIn_of _ (by decide +kernel)) ggX9_senderOf_X9_n
set_option maxRecDepth 20000 in
theorem ggX9_senderOf_X9_bitOf : GoodIn wsX9_senderOf wsX9_bitOf := goodIn_r _ [16, 1, 10, 11, 5, 12, 17, 18, 19, 20, 21, 22, 23, 24, 25, 26, 27, 28, 29, 30, 31, 32, 33, 34] (by decide +kernel) (by decide +kernel)
set_option maxRecDepth 20000 in
theorem gX9_senderOf_X9_bitOf : GoodIn wsX9_senderOf (wsV RX9 74 RX9 yX9_bitOf wsX9_bitOf) := goodIn_app (goodIn_of _ (by decide +kernel)) ggX9_senderOf_X9_bitOf
theorem dX9_senderOf_0 : decode cX9_senderOf 0 = .ok (.aload_n 0, 1) := by decide +kernel
theorem dX9_senderOf_1 : decode cX9_senderOf 1 = .ok (.iload_n 1, 1) := by decide +kernel
theorem dX9_senderOf_2 : decode cX9_senderOf 2 = .ok (.invokevirtual 67, 3) := by decide +kernel
theorem dX9_senderOf_5 : decode cX9_senderOf 5 = .ok (.ifCond .ne 5, 3) := by decide +kernel
theorem dX9_senderOf_8 : decode cX9_senderOf 8 = .ok (.iconst (-1), 1) := by decide +kernel
theorem dX9_senderOf_9 : decode cX9_senderOf 9 = .ok (.ireturn, 1) := by decide +kernel
theorem dX9_senderOf_10 : decode cX9_senderOf 10 = .ok (.iload_n 1, 1) := by decide +kernel
theorem dX9_senderOf_11 : decode cX9_senderOf 11 = .ok (.invokestatic 50, 3) := by decide +kernel
theorem dX9_senderOf_14 : decode cX9_senderOf 14 = .ok (.istore_n 3, 1) := by decide +kernel
theorem dX9_senderOf_15 : decode cX9_senderOf 15 = .ok (.aload_n 0, 1) := by decide +kernel
theorem dX9_senderOf_16 : decode cX9_senderOf 16 = .ok (.getfield 7, 3) := by decide +kernel
theorem dX9_senderOf_19 : decode cX9_senderOf 19 = .ok (.iload_n 3, 1) := by decide +kernel
theorem dX9_senderOf_20 : decode cX9_senderOf 20 = .ok (.iconst 4, 1) := by decide +kernel
theorem dX9_senderOf_21 : decode cX9_senderOf 21 = .ok (.iadd, 1) := by decide +kernel
theorem dX9_senderOf_22 : decode cX9_senderOf 22 = .ok (.iaload, 1) := by decide +kernel
theorem dX9_senderOf_23 : decode cX9_senderOf 23 = .ok (.iconst 1, 1) := by decide +kernel
theorem dX9_senderOf_24 : decode cX9_senderOf 24 = .ok (.if_icmp .ne 7, 3) := by decide +kernel
theorem dX9_senderOf_27 : decode cX9_senderOf 27 = .ok (.iconst 1, 1) := by decide +kernel
theorem dX9_senderOf_28 : decode cX9_senderOf 28 = .ok (.goto 4, 3) := by decide +kernel
theorem dX9_senderOf_31 : decode cX9_senderOf 31 = .ok (.iconst 0, 1) := by decide +kernel
theorem dX9_senderOf_32 : decode cX9_senderOf 32 = .ok (.istore 4, 2) := by decide +kernel
theorem dX9_senderOf_34 : decode cX9_senderOf 34 = .ok (.iload_n 2, 1) := by decide +kernel
theorem dX9_senderOf_35 : decode cX9_senderOf 35 = .ok (.tableswitch 117 0 6 #[41, 41, 41, 52, 72, 91, 101], 41) := by decide +kernel
theorem dX9_senderOf_76 : decode cX9_senderOf 76 = .ok (.aload_n 0, 1) := by decide +kernel
theorem dX9_senderOf_77 : decode cX9_senderOf 77 = .ok (.getfield 7, 3) := by decide +kernel
theorem dX9_senderOf_80 : decode cX9_senderOf 80 = .ok (.iload_n 3, 1) := by decide +kernel
theorem dX9_senderOf_81 : decode cX9_senderOf 81 = .ok (.iconst 1, 1) := by decide +kernel
theorem dX9_senderOf_82 : decode cX9_senderOf 82 = .ok (.iadd, 1) := by decide +kernel
theorem dX9_senderOf_83 : decode cX9_senderOf 83 = .ok (.iload_n 2, 1) := by decide +kernel
theorem dX9_senderOf_84 : decode cX9_senderOf 84 = .ok (.iadd, 1) := by decide +kernel
theorem dX9_senderOf_85 : decode cX9_senderOf 85 = .ok (.iaload, 1) := by decide +kernel
theorem dX9_senderOf_86 : decode cX9_senderOf 86 = .ok (.ireturn, 1) := by decide +kernel
theorem dX9_senderOf_87 : decode cX9_senderOf 87 = .ok (.iload 4, 2) := by decide +kernel
theorem dX9_senderOf_89 : decode cX9_senderOf 89 = .ok (.ifCond .eq 15, 3) := by decide +kernel
theorem dX9_senderOf_92 : decode cX9_senderOf 92 = .ok (.aload_n 0, 1) := by decide +kernel
theorem dX9_senderOf_93 : decode cX9_senderOf 93 = .ok (.getfield 7, 3) := by decide +kernel
theorem dX9_senderOf_96 : decode cX9_senderOf 96 = .ok (.iload_n 3, 1) := by decide +kernel
theorem dX9_senderOf_97 : decode cX9_senderOf 97 = .ok (.bipush 6, 2) := by decide +kernel
theorem dX9_senderOf_99 : decode cX9_senderOf 99 = .ok (.iadd, 1) := by decide +kernel
theorem dX9_senderOf_100 : decode cX9_senderOf 100 = .ok (.iaload, 1) := by decide +kernel
theorem dX9_senderOf_101 : decode cX9_senderOf 101 = .ok (.goto 5, 3) := by decide +kernel
theorem dX9_senderOf_104 : decode cX9_senderOf 104 = .ok (.bipush (-5), 2) := by decide +kernel
theorem dX9_senderOf_106 : decode cX9_senderOf 106 = .ok (.ireturn, 1) := by decide +kernel
theorem dX9_senderOf_107 : decode cX9_senderOf 107 = .ok (.iload 4, 2) := by decide +kernel
theorem dX9_senderOf_109 : decode cX9_senderOf 109 = .ok (.ifCond .eq 14, 3) := by decide +kernel
theorem dX9_senderOf_112 : decode cX9_senderOf 112 = .ok (.aload_n 0, 1) := by decide +kernel
theorem dX9_senderOf_113 : decode cX9_senderOf 113 = .ok (.getfield 7, 3) := by decide +kernel
theorem dX9_senderOf_116 : decode cX9_senderOf 116 = .ok (.iload_n 3, 1) := by decide +kernel
theorem dX9_senderOf_117 : decode cX9_senderOf 117 = .ok (.iconst 5, 1) := by decide +kernel
theorem dX9_senderOf_118 : decode cX9_senderOf 118 = .ok (.iadd, 1) := by decide +kernel
theorem dX9_senderOf_119 : decode cX9_senderOf 119 = .ok (.iaload, 1) := by decide +kernel
theorem dX9_senderOf_120 : decode cX9_senderOf 120 = .ok (.goto 5, 3) := by decide +kernel
theorem dX9_senderOf_123 : decode cX9_senderOf 123 = .ok (.bipush (-5), 2) := by decide +kernel
theorem dX9_senderOf_125 : decode cX9_senderOf 125 = .ok (.ireturn, 1) := by decide +kernel
theorem dX9_senderOf_126 : decode cX9_senderOf 126 = .ok (.aload_n 0, 1) := by decide +kernel
theorem dX9_senderOf_127 : decode cX9_senderOf 127 = .ok (.getfield 7, 3) := by decide +kernel
theorem dX9_senderOf_130 : decode cX9_senderOf 130 = .ok (.iload_n 3, 1) := by decide +kernel
theorem dX9_senderOf_131 : decode cX9_senderOf 131 = .ok (.bipush 7, 2) := by decide +kernel
theorem dX9_senderOf_133 : decode cX9_senderOf 133 = .ok (.iadd, 1) := by decide +kernel
theorem dX9_senderOf_134 : decode cX9_senderOf 134 = .ok (.iaload, 1) := by decide +kernel
theorem dX9_senderOf_135 : decode cX9_senderOf 135 = .ok (.ireturn, 1) := by decide +kernel
theorem dX9_senderOf_136 : decode cX9_senderOf 136 = .ok (.iload 4, 2) := by decide +kernel
theorem dX9_senderOf_138 : decode cX9_senderOf 138 = .ok (.ifCond .eq 11, 3) := by decide +kernel
theorem dX9_senderOf_141 : decode cX9_senderOf 141 = .ok (.aload_n 0, 1) := by decide +kernel
theorem dX9_senderOf_142 : decode cX9_senderOf 142 = .ok (.iload_n 1, 1) := by decide +kernel
theorem dX9_senderOf_143 : decode cX9_senderOf 143 = .ok (.invokevirtual 74, 3) := by decide +kernel
theorem dX9_senderOf_146 : decode cX9_senderOf 146 = .ok (.goto 5, 3) := by decide +kernel
theorem dX9_senderOf_149 : decode cX9_senderOf 149 = .ok (.bipush (-5), 2) := by decide +kernel
theorem dX9_senderOf_151 : decode cX9_senderOf 151 = .ok (.ireturn, 1) := by decide +kernel
theorem dX9_senderOf_152 : decode cX9_senderOf 152 = .ok (.bipush (-2), 2) := by decide +kernel
theorem dX9_senderOf_154 : decode cX9_senderOf 154 = .ok (.ireturn, 1) := by decide +kernel
set_option maxRecDepth 20000 in
theorem ggX9_queued_X9_isSender : GoodIn wsX9_queued wsX9_isSender := goodIn_r _ [6, 1, 7, 8, 5, 9, 10, 11, 12, 13, 14, 15, 16, 17, 18, 19, 20, 21, 22, 23, 24, 25, 26, 27] (by decide +kernel) (by decide +kernel)
set_option maxRecDepth 20000 in
theorem gX9_queued_X9_isSender : GoodIn wsX9_queued (wsV RX9 67 RX9 yX9_isSender wsX9_isSender) := goodIn_app (goodIn_of _ (by decide +kernel)) ggX9_queued_X9_isSender
set_option maxRecDepth 20000 in
theorem ggX9_queued_X9_n : GoodIn wsX9_queued wsX9_n := goodIn_r _ [12] (by decide +kernel) (by decide +kernel)
set_option maxRecDepth 20000 in
theorem gX9_queued_X9_n : GoodIn wsX9_queued (va_wsS RX9 50 yX9_n wsX9_n) := goodIn_app (goodIn_of _ (by decide +kernel)) ggX9_queued_X9_n
theorem dX9_queued_0 : decode cX9_queued 0 = .ok (.aload_n 0, 1) := by decide +kernel
theorem dX9_queued_1 : decode cX9_queued 1 = .ok (.iload_n 1, 1) := by decide +kernel
theorem dX9_queued_2 : decode cX9_queued 2 = .ok (.invokevirtual 67, 3) := by decide +kernel
theorem dX9_queued_5 : decode cX9_queued 5 = .ok (.ifCond .ne 5, 3) := by decide +kernel
theorem dX9_queued_8 : decode cX9_queued 8 = .ok (.iconst (-1), 1) := by decide +kernel
theorem dX9_queued_9 : decode cX9_queued 9 = .ok (.ireturn, 1) := by decide +kernel
theorem dX9_queued_10 : decode cX9_queued 10 = .ok (.iload_n 2, 1) := by decide +kernel
theorem dX9_queued_11 : decode cX9_queued 11 = .ok (.ifCond .ge 6, 3) := by decide +kernel
theorem dX9_queued_14 : decode cX9_queued 14 = .ok (.bipush (-2), 2) := by decide +kernel
theorem dX9_queued_16 : decode cX9_queued 16 = .ok (.ireturn, 1) := by decide +kernel
theorem dX9_queued_17 : decode cX9_queued 17 = .ok (.iload_n 2, 1) := by decide +kernel
theorem dX9_queued_18 : decode cX9_queued 18 = .ok (.aload_n 0, 1) := by decide +kernel
theorem dX9_queued_19 : decode cX9_queued 19 = .ok (.getfield 7, 3) := by decide +kernel
theorem dX9_queued_22 : decode cX9_queued 22 = .ok (.iload_n 1, 1) := by decide +kernel
theorem dX9_queued_23 : decode cX9_queued 23 = .ok (.invokestatic 50, 3) := by decide +kernel
theorem dX9_queued_26 : decode cX9_queued 26 = .ok (.iconst 3, 1) := by decide +kernel
theorem dX9_queued_27 : decode cX9_queued 27 = .ok (.iadd, 1) := by decide +kernel
theorem dX9_queued_28 : decode cX9_queued 28 = .ok (.iaload, 1) := by decide +kernel
theorem dX9_queued_29 : decode cX9_queued 29 = .ok (.if_icmp .ge 20, 3) := by decide +kernel
theorem dX9_queued_32 : decode cX9_queued 32 = .ok (.aload_n 0, 1) := by decide +kernel
theorem dX9_queued_33 : decode cX9_queued 33 = .ok (.getfield 7, 3) := by decide +kernel
theorem dX9_queued_36 : decode cX9_queued 36 = .ok (.iload_n 1, 1) := by decide +kernel
theorem dX9_queued_37 : decode cX9_queued 37 = .ok (.invokestatic 50, 3) := by decide +kernel
theorem dX9_queued_40 : decode cX9_queued 40 = .ok (.bipush 8, 2) := by decide +kernel
theorem dX9_queued_42 : decode cX9_queued 42 = .ok (.iadd, 1) := by decide +kernel
theorem dX9_queued_43 : decode cX9_queued 43 = .ok (.iload_n 2, 1) := by decide +kernel
theorem dX9_queued_44 : decode cX9_queued 44 = .ok (.iadd, 1) := by decide +kernel
theorem dX9_queued_45 : decode cX9_queued 45 = .ok (.iaload, 1) := by decide +kernel
theorem dX9_queued_46 : decode cX9_queued 46 = .ok (.goto 5, 3) := by decide +kernel
theorem dX9_queued_49 : decode cX9_queued 49 = .ok (.bipush (-5), 2) := by decide +kernel
theorem dX9_queued_51 : decode cX9_queued 51 = .ok (.ireturn, 1) := by decide +kernel
set_option maxRecDepth 20000 in
theorem ggX9_machineOf_X9_isMachine : GoodIn wsX9_machineOf wsX9_isMachine := goodIn_r _ [6, 1, 7, 8, 5, 9, 10, 11, 12, 13, 14, 15, 16, 17, 18, 19, 20, 21, 22, 23, 24, 25, 26, 27] (by decide +kernel) (by decide +kernel)
set_option maxRecDepth 20000 in
theorem gX9_machineOf_X9_isMachine : GoodIn wsX9_machineOf (wsV RX9 81 RX9 yX9_isMachine wsX9_isMachine) := goodIn_app (goodIn_of _ (by decide +kernel)) ggX9_machineOf_X9_isMachine
set_option maxRecDepth 20000 in
theorem ggX9_machineOf_X9_in : GoodIn wsX9_machineOf wsX9_in := goodIn_r _ [9] (by decide +kernel) (by decide +kernel)
set_option maxRecDepth 20000 in
theorem gX9_machineOf_X9_in : GoodIn wsX9_machineOf (va_wsS RX9 46 yX9_in wsX9_in) := goodIn_app (goodIn_of _ (by decide +kernel)) ggX9_machineOf_X9_in
set_option maxRecDepth 20000 in
theorem ggX9_machineOf_X9_m : GoodIn wsX9_machineOf wsX9_m := goodIn_r _ [12] (by decide +kernel) (by decide +kernel)
set_option maxRecDepth 20000 in
theorem gX9_machineOf_X9_m : GoodIn wsX9_machineOf (va_wsS RX9 53 yX9_m wsX9_m) := goodIn_app (goodIn_of _ (by decide +kernel)) ggX9_machineOf_X9_m
theorem dX9_machineOf_0 : decode cX9_machineOf 0 = .ok (.aload_n 0, 1) := by decide +kernel
theorem dX9_machineOf_1 : decode cX9_machineOf 1 = .ok (.iload_n 1, 1) := by decide +kernel
theorem dX9_machineOf_2 : decode cX9_machineOf 2 = .ok (.invokevirtual 81, 3) := by decide +kernel
theorem dX9_machineOf_5 : decode cX9_machineOf 5 = .ok (.ifCond .ne 7, 3) := by decide +kernel
theorem dX9_machineOf_8 : decode cX9_machineOf 8 = .ok (.iconst (-1), 1) := by decide +kernel
theorem dX9_machineOf_9 : decode cX9_machineOf 9 = .ok (.goto 30, 3) := by decide +kernel
theorem dX9_machineOf_12 : decode cX9_machineOf 12 = .ok (.iload_n 2, 1) := by decide +kernel
theorem dX9_machineOf_13 : decode cX9_machineOf 13 = .ok (.iconst 0, 1) := by decide +kernel
theorem dX9_machineOf_14 : decode cX9_machineOf 14 = .ok (.iconst 3, 1) := by decide +kernel
theorem dX9_machineOf_15 : decode cX9_machineOf 15 = .ok (.invokestatic 46, 3) := by decide +kernel
theorem dX9_machineOf_18 : decode cX9_machineOf 18 = .ok (.ifCond .eq 19, 3) := by decide +kernel
theorem dX9_machineOf_21 : decode cX9_machineOf 21 = .ok (.aload_n 0, 1) := by decide +kernel
theorem dX9_machineOf_22 : decode cX9_machineOf 22 = .ok (.getfield 7, 3) := by decide +kernel
theorem dX9_machineOf_25 : decode cX9_machineOf 25 = .ok (.iload_n 1, 1) := by decide +kernel
theorem dX9_machineOf_26 : decode cX9_machineOf 26 = .ok (.invokestatic 53, 3) := by decide +kernel
theorem dX9_machineOf_29 : decode cX9_machineOf 29 = .ok (.iconst 1, 1) := by decide +kernel
theorem dX9_machineOf_30 : decode cX9_machineOf 30 = .ok (.iadd, 1) := by decide +kernel
theorem dX9_machineOf_31 : decode cX9_machineOf 31 = .ok (.iload_n 2, 1) := by decide +kernel
theorem dX9_machineOf_32 : decode cX9_machineOf 32 = .ok (.iadd, 1) := by decide +kernel
theorem dX9_machineOf_33 : decode cX9_machineOf 33 = .ok (.iaload, 1) := by decide +kernel
theorem dX9_machineOf_34 : decode cX9_machineOf 34 = .ok (.goto 5, 3) := by decide +kernel
theorem dX9_machineOf_37 : decode cX9_machineOf 37 = .ok (.bipush (-2), 2) := by decide +kernel
theorem dX9_machineOf_39 : decode cX9_machineOf 39 = .ok (.ireturn, 1) := by decide +kernel
set_option maxRecDepth 20000 in
theorem ggX9_lampOf_X9_isLamp : GoodIn wsX9_lampOf wsX9_isLamp := goodIn_r _ [6, 1, 7, 8, 5, 9, 10, 11, 12, 13, 14, 15, 16, 17, 18, 19, 20, 21, 22, 23, 24, 25, 26, 27] (by decide +kernel) (by decide +kernel)
set_option maxRecDepth 20000 in
theorem gX9_lampOf_X9_isLamp : GoodIn wsX9_lampOf (wsV RX9 88 RX9 yX9_isLamp wsX9_isLamp) := goodIn_app (goodIn_of _ (by decide +kernel)) ggX9_lampOf_X9_isLamp
set_option maxRecDepth 20000 in
theorem ggX9_lampOf_X9_in : GoodIn wsX9_lampOf wsX9_in := goodIn_r _ [9] (by decide +kernel) (by decide +kernel)
set_option maxRecDepth 20000 in
theorem gX9_lampOf_X9_in : GoodIn wsX9_lampOf (va_wsS RX9 46 yX9_in wsX9_in) := goodIn_app (goodIn_of _ (by decide +kernel)) ggX9_lampOf_X9_in
set_option maxRecDepth 20000 in
theorem ggX9_lampOf_X9_l : GoodIn wsX9_lampOf wsX9_l := goodIn_r _ [12] (by decide +kernel) (by decide +kernel)
set_option maxRecDepth 20000 in
theorem gX9_lampOf_X9_l : GoodIn wsX9_lampOf (va_wsS RX9 56 yX9_l wsX9_l) := goodIn_app (goodIn_of _ (by decide +kernel)) ggX9_lampOf_X9_l
theorem dX9_lampOf_0 : decode cX9_lampOf 0 = .ok (.aload_n 0, 1) := by decide +kernel
theorem dX9_lampOf_1 : decode cX9_lampOf 1 = .ok (.iload_n 1, 1) := by decide +kernel
theorem dX9_lampOf_2 : decode cX9_lampOf 2 = .ok (.invokevirtual 88, 3) := by decide +kernel
theorem dX9_lampOf_5 : decode cX9_lampOf 5 = .ok (.ifCond .ne 7, 3) := by decide +kernel
theorem dX9_lampOf_8 : decode cX9_lampOf 8 = .ok (.iconst (-1), 1) := by decide +kernel
theorem dX9_lampOf_9 : decode cX9_lampOf 9 = .ok (.goto 30, 3) := by decide +kernel
theorem dX9_lampOf_12 : decode cX9_lampOf 12 = .ok (.iload_n 2, 1) := by decide +kernel
theorem dX9_lampOf_13 : decode cX9_lampOf 13 = .ok (.iconst 0, 1) := by decide +kernel
theorem dX9_lampOf_14 : decode cX9_lampOf 14 = .ok (.iconst 4, 1) := by decide +kernel
theorem dX9_lampOf_15 : decode cX9_lampOf 15 = .ok (.invokestatic 46, 3) := by decide +kernel
theorem dX9_lampOf_18 : decode cX9_lampOf 18 = .ok (.ifCond .eq 19, 3) := by decide +kernel
theorem dX9_lampOf_21 : decode cX9_lampOf 21 = .ok (.aload_n 0, 1) := by decide +kernel
theorem dX9_lampOf_22 : decode cX9_lampOf 22 = .ok (.getfield 7, 3) := by decide +kernel
theorem dX9_lampOf_25 : decode cX9_lampOf 25 = .ok (.iload_n 1, 1) := by decide +kernel
theorem dX9_lampOf_26 : decode cX9_lampOf 26 = .ok (.invokestatic 56, 3) := by decide +kernel
theorem dX9_lampOf_29 : decode cX9_lampOf 29 = .ok (.iconst 1, 1) := by decide +kernel
theorem dX9_lampOf_30 : decode cX9_lampOf 30 = .ok (.iadd, 1) := by decide +kernel
theorem dX9_lampOf_31 : decode cX9_lampOf 31 = .ok (.iload_n 2, 1) := by decide +kernel
theorem dX9_lampOf_32 : decode cX9_lampOf 32 = .ok (.iadd, 1) := by decide +kernel
theorem dX9_lampOf_33 : decode cX9_lampOf 33 = .ok (.iaload, 1) := by decide +kernel
theorem dX9_lampOf_34 : decode cX9_lampOf 34 = .ok (.goto 5, 3) := by decide +kernel
theorem dX9_lampOf_37 : decode cX9_lampOf 37 = .ok (.bipush (-2), 2) := by decide +kernel
theorem dX9_lampOf_39 : decode cX9_lampOf 39 = .ok (.ireturn, 1) := by decide +kernel
set_option maxRecDepth 20000 in
theorem ggX9_receiver_X9_isWire : GoodIn wsX9_receiver wsX9_isWire := goodIn_r _ [5, 6, 7, 4, 8] (by decide +kernel) (by decide +kernel)
set_option maxRecDepth 20000 in
theorem gX9_receiver_X9_isWire : GoodIn wsX9_receiver (va_wsS RX9 118 yX9_isWire wsX9_isWire) := goodIn_app (goodIn_of _ (by decide +kernel)) ggX9_receiver_X9_isWire
set_option maxRecDepth 20000 in
theorem ggX9_receiver_X9_r : GoodIn wsX9_receiver wsX9_r := goodIn_r _ [11] (by decide +kernel) (by decide +kernel)
set_option maxRecDepth 20000 in
theorem gX9_receiver_X9_r : GoodIn wsX9_receiver (va_wsS RX9 42 yX9_r wsX9_r) := goodIn_app (goodIn_of _ (by decide +kernel)) ggX9_receiver_X9_r
theorem dX9_receiver_0 : decode cX9_receiver 0 = .ok (.iload_n 1, 1) := by decide +kernel
theorem dX9_receiver_1 : decode cX9_receiver 1 = .ok (.invokestatic 118, 3) := by decide +kernel
theorem dX9_receiver_4 : decode cX9_receiver 4 = .ok (.ifCond .ne 5, 3) := by decide +kernel
theorem dX9_receiver_7 : decode cX9_receiver 7 = .ok (.iconst (-1), 1) := by decide +kernel
theorem dX9_receiver_8 : decode cX9_receiver 8 = .ok (.ireturn, 1) := by decide +kernel
theorem dX9_receiver_9 : decode cX9_receiver 9 = .ok (.iload_n 1, 1) := by decide +kernel
theorem dX9_receiver_10 : decode cX9_receiver 10 = .ok (.invokestatic 42, 3) := by decide +kernel
theorem dX9_receiver_13 : decode cX9_receiver 13 = .ok (.istore_n 3, 1) := by decide +kernel
theorem dX9_receiver_14 : decode cX9_receiver 14 = .ok (.iload_n 2, 1) := by decide +kernel
theorem dX9_receiver_15 : decode cX9_receiver 15 = .ok (.tableswitch 153 0 4 #[33, 59, 84, 111, 143], 33) := by decide +kernel
theorem dX9_receiver_48 : decode cX9_receiver 48 = .ok (.aload_n 0, 1) := by decide +kernel
theorem dX9_receiver_49 : decode cX9_receiver 49 = .ok (.getfield 7, 3) := by decide +kernel
theorem dX9_receiver_52 : decode cX9_receiver 52 = .ok (.iload_n 3, 1) := by decide +kernel
theorem dX9_receiver_53 : decode cX9_receiver 53 = .ok (.iconst 0, 1) := by decide +kernel
theorem dX9_receiver_54 : decode cX9_receiver 54 = .ok (.iadd, 1) := by decide +kernel
theorem dX9_receiver_55 : decode cX9_receiver 55 = .ok (.iaload, 1) := by decide +kernel
theorem dX9_receiver_56 : decode cX9_receiver 56 = .ok (.iconst 1, 1) := by decide +kernel
theorem dX9_receiver_57 : decode cX9_receiver 57 = .ok (.if_icmp .ne 14, 3) := by decide +kernel
theorem dX9_receiver_60 : decode cX9_receiver 60 = .ok (.aload_n 0, 1) := by decide +kernel
theorem dX9_receiver_61 : decode cX9_receiver 61 = .ok (.getfield 7, 3) := by decide +kernel
theorem dX9_receiver_64 : decode cX9_receiver 64 = .ok (.iload_n 3, 1) := by decide +kernel
theorem dX9_receiver_65 : decode cX9_receiver 65 = .ok (.iconst 2, 1) := by decide +kernel
theorem dX9_receiver_66 : decode cX9_receiver 66 = .ok (.iadd, 1) := by decide +kernel
theorem dX9_receiver_67 : decode cX9_receiver 67 = .ok (.iaload, 1) := by decide +kernel
theorem dX9_receiver_68 : decode cX9_receiver 68 = .ok (.goto 5, 3) := by decide +kernel
theorem dX9_receiver_71 : decode cX9_receiver 71 = .ok (.bipush (-5), 2) := by decide +kernel
theorem dX9_receiver_73 : decode cX9_receiver 73 = .ok (.ireturn, 1) := by decide +kernel
theorem dX9_receiver_74 : decode cX9_receiver 74 = .ok (.aload_n 0, 1) := by decide +kernel
theorem dX9_receiver_75 : decode cX9_receiver 75 = .ok (.getfield 7, 3) := by decide +kernel
theorem dX9_receiver_78 : decode cX9_receiver 78 = .ok (.iload_n 3, 1) := by decide +kernel
theorem dX9_receiver_79 : decode cX9_receiver 79 = .ok (.iconst 0, 1) := by decide +kernel
theorem dX9_receiver_80 : decode cX9_receiver 80 = .ok (.iadd, 1) := by decide +kernel
theorem dX9_receiver_81 : decode cX9_receiver 81 = .ok (.iaload, 1) := by decide +kernel
theorem dX9_receiver_82 : decode cX9_receiver 82 = .ok (.ifCond .ne 14, 3) := by decide +kernel
theorem dX9_receiver_85 : decode cX9_receiver 85 = .ok (.aload_n 0, 1) := by decide +kernel
theorem dX9_receiver_86 : decode cX9_receiver 86 = .ok (.getfield 7, 3) := by decide +kernel
theorem dX9_receiver_89 : decode cX9_receiver 89 = .ok (.iload_n 3, 1) := by decide +kernel
theorem dX9_receiver_90 : decode cX9_receiver 90 = .ok (.iconst 1, 1) := by decide +kernel
theorem dX9_receiver_91 : decode cX9_receiver 91 = .ok (.iadd, 1) := by decide +kernel
theorem dX9_receiver_92 : decode cX9_receiver 92 = .ok (.iaload, 1) := by decide +kernel
theorem dX9_receiver_93 : decode cX9_receiver 93 = .ok (.goto 5, 3) := by decide +kernel
theorem dX9_receiver_96 : decode cX9_receiver 96 = .ok (.bipush (-5), 2) := by decide +kernel
theorem dX9_receiver_98 : decode cX9_receiver 98 = .ok (.ireturn, 1) := by decide +kernel
theorem dX9_receiver_99 : decode cX9_receiver 99 = .ok (.aload_n 0, 1) := by decide +kernel
theorem dX9_receiver_100 : decode cX9_receiver 100 = .ok (.getfield 7, 3) := by decide +kernel
theorem dX9_receiver_103 : decode cX9_receiver 103 = .ok (.iload_n 3, 1) := by decide +kernel
theorem dX9_receiver_104 : decode cX9_receiver 104 = .ok (.iconst 4, 1) := by decide +kernel
theorem dX9_receiver_105 : decode cX9_receiver 105 = .ok (.iadd, 1) := by decide +kernel
theorem dX9_receiver_106 : decode cX9_receiver 106 = .ok (.iaload, 1) := by decide +kernel
theorem dX9_receiver_107 : decode cX9_receiver 107 = .ok (.ifCond .ne 8, 3) := by decide +kernel
theorem dX9_receiver_110 : decode cX9_receiver 110 = .ok (.bipush (-5), 2) := by decide +kernel
theorem dX9_receiver_112 : decode cX9_receiver 112 = .ok (.goto 13, 3) := by decide +kernel
theorem dX9_receiver_115 : decode cX9_receiver 115 = .ok (.aload_n 0, 1) := by decide +kernel
theorem dX9_receiver_116 : decode cX9_receiver 116 = .ok (.getfield 7, 3) := by decide +kernel
theorem dX9_receiver_119 : decode cX9_receiver 119 = .ok (.iload_n 3, 1) := by decide +kernel
theorem dX9_receiver_120 : decode cX9_receiver 120 = .ok (.iconst 4, 1) := by decide +kernel
theorem dX9_receiver_121 : decode cX9_receiver 121 = .ok (.iadd, 1) := by decide +kernel
theorem dX9_receiver_122 : decode cX9_receiver 122 = .ok (.iaload, 1) := by decide +kernel
theorem dX9_receiver_123 : decode cX9_receiver 123 = .ok (.iconst 1, 1) := by decide +kernel
theorem dX9_receiver_124 : decode cX9_receiver 124 = .ok (.isub, 1) := by decide +kernel
theorem dX9_receiver_125 : decode cX9_receiver 125 = .ok (.ireturn, 1) := by decide +kernel
theorem dX9_receiver_126 : decode cX9_receiver 126 = .ok (.aload_n 0, 1) := by decide +kernel
theorem dX9_receiver_127 : decode cX9_receiver 127 = .ok (.getfield 7, 3) := by decide +kernel
theorem dX9_receiver_130 : decode cX9_receiver 130 = .ok (.iload_n 3, 1) := by decide +kernel
theorem dX9_receiver_131 : decode cX9_receiver 131 = .ok (.iconst 4, 1) := by decide +kernel
theorem dX9_receiver_132 : decode cX9_receiver 132 = .ok (.iadd, 1) := by decide +kernel
theorem dX9_receiver_133 : decode cX9_receiver 133 = .ok (.iaload, 1) := by decide +kernel
theorem dX9_receiver_134 : decode cX9_receiver 134 = .ok (.ifCond .ne 8, 3) := by decide +kernel
theorem dX9_receiver_137 : decode cX9_receiver 137 = .ok (.bipush (-5), 2) := by decide +kernel
theorem dX9_receiver_139 : decode cX9_receiver 139 = .ok (.goto 18, 3) := by decide +kernel
theorem dX9_receiver_142 : decode cX9_receiver 142 = .ok (.aload_n 0, 1) := by decide +kernel
theorem dX9_receiver_143 : decode cX9_receiver 143 = .ok (.getfield 7, 3) := by decide +kernel
theorem dX9_receiver_146 : decode cX9_receiver 146 = .ok (.iconst 4, 1) := by decide +kernel
theorem dX9_receiver_147 : decode cX9_receiver 147 = .ok (.iaload, 1) := by decide +kernel
theorem dX9_receiver_148 : decode cX9_receiver 148 = .ok (.aload_n 0, 1) := by decide +kernel
theorem dX9_receiver_149 : decode cX9_receiver 149 = .ok (.getfield 7, 3) := by decide +kernel
theorem dX9_receiver_152 : decode cX9_receiver 152 = .ok (.iload_n 3, 1) := by decide +kernel
theorem dX9_receiver_153 : decode cX9_receiver 153 = .ok (.iconst 5, 1) := by decide +kernel
theorem dX9_receiver_154 : decode cX9_receiver 154 = .ok (.iadd, 1) := by decide +kernel
theorem dX9_receiver_155 : decode cX9_receiver 155 = .ok (.iaload, 1) := by decide +kernel
theorem dX9_receiver_156 : decode cX9_receiver 156 = .ok (.isub, 1) := by decide +kernel
theorem dX9_receiver_157 : decode cX9_receiver 157 = .ok (.ireturn, 1) := by decide +kernel
theorem dX9_receiver_158 : decode cX9_receiver 158 = .ok (.aload_n 0, 1) := by decide +kernel
theorem dX9_receiver_159 : decode cX9_receiver 159 = .ok (.getfield 7, 3) := by decide +kernel
theorem dX9_receiver_162 : decode cX9_receiver 162 = .ok (.iload_n 3, 1) := by decide +kernel
theorem dX9_receiver_163 : decode cX9_receiver 163 = .ok (.bipush 6, 2) := by decide +kernel
theorem dX9_receiver_165 : decode cX9_receiver 165 = .ok (.iadd, 1) := by decide +kernel
theorem dX9_receiver_166 : decode cX9_receiver 166 = .ok (.iaload, 1) := by decide +kernel
theorem dX9_receiver_167 : decode cX9_receiver 167 = .ok (.ireturn, 1) := by decide +kernel
theorem dX9_receiver_168 : decode cX9_receiver 168 = .ok (.bipush (-2), 2) := by decide +kernel
theorem dX9_receiver_170 : decode cX9_receiver 170 = .ok (.ireturn, 1) := by decide +kernel
set_option maxRecDepth 20000 in
theorem ggX9_frame_X9_in : GoodIn wsX9_frame wsX9_in := goodIn_r _ [4] (by decide +kernel) (by decide +kernel)
set_option maxRecDepth 20000 in
theorem gX9_frame_X9_in : GoodIn wsX9_frame (va_wsS RX9 46 yX9_in wsX9_in) := goodIn_app (goodIn_of _ (by decide +kernel)) ggX9_frame_X9_in
set_option maxRecDepth 20000 in
theorem ggX9_frame_X9_frameBit : GoodIn wsX9_frame wsX9_frameBit := goodIn_r _ [7] (by decide +kernel) (by decide +kernel)
set_option maxRecDepth 20000 in
theorem gX9_frame_X9_frameBit : GoodIn wsX9_frame (va_wsS RX9 63 yX9_frameBit wsX9_frameBit) := goodIn_app (goodIn_of _ (by decide +kernel)) ggX9_frame_X9_frameBit
theorem dX9_frame_0 : decode cX9_frame 0 = .ok (.iload_n 1, 1) := by decide +kernel
theorem dX9_frame_1 : decode cX9_frame 1 = .ok (.iconst 0, 1) := by decide +kernel
theorem dX9_frame_2 : decode cX9_frame 2 = .ok (.bipush 31, 2) := by decide +kernel
theorem dX9_frame_4 : decode cX9_frame 4 = .ok (.invokestatic 46, 3) := by decide +kernel
theorem dX9_frame_7 : decode cX9_frame 7 = .ok (.ifCond .eq 21, 3) := by decide +kernel
theorem dX9_frame_10 : decode cX9_frame 10 = .ok (.iload_n 2, 1) := by decide +kernel
theorem dX9_frame_11 : decode cX9_frame 11 = .ok (.iconst 0, 1) := by decide +kernel
theorem dX9_frame_12 : decode cX9_frame 12 = .ok (.bipush 13, 2) := by decide +kernel
theorem dX9_frame_14 : decode cX9_frame 14 = .ok (.invokestatic 46, 3) := by decide +kernel
theorem dX9_frame_17 : decode cX9_frame 17 = .ok (.ifCond .eq 11, 3) := by decide +kernel
theorem dX9_frame_20 : decode cX9_frame 20 = .ok (.iload_n 1, 1) := by decide +kernel
theorem dX9_frame_21 : decode cX9_frame 21 = .ok (.iload_n 2, 1) := by decide +kernel
theorem dX9_frame_22 : decode cX9_frame 22 = .ok (.invokestatic 63, 3) := by decide +kernel
theorem dX9_frame_25 : decode cX9_frame 25 = .ok (.goto 5, 3) := by decide +kernel
theorem dX9_frame_28 : decode cX9_frame 28 = .ok (.bipush (-2), 2) := by decide +kernel
theorem dX9_frame_30 : decode cX9_frame 30 = .ok (.ireturn, 1) := by decide +kernel
set_option maxRecDepth 20000 in
theorem ggX9_loss_X9_isWire : GoodIn wsX9_loss wsX9_isWire := goodIn_r _ [4, 5, 6, 3, 7] (by decide +kernel) (by decide +kernel)
set_option maxRecDepth 20000 in
theorem gX9_loss_X9_isWire : GoodIn wsX9_loss (va_wsS RX9 118 yX9_isWire wsX9_isWire) := goodIn_app (goodIn_of _ (by decide +kernel)) ggX9_loss_X9_isWire
set_option maxRecDepth 20000 in
theorem ggX9_loss_X9_lossOf : GoodIn wsX9_loss wsX9_lossOf := goodIn_r _ [11, 12, 13, 14, 15, 16, 17, 18, 19, 20, 21, 22, 23, 24, 25, 26, 27] (by decide +kernel) (by decide +kernel)
set_option maxRecDepth 20000 in
theorem gX9_loss_X9_lossOf : GoodIn wsX9_loss (wsV RX9 71 RX9 yX9_lossOf wsX9_lossOf) := goodIn_app (goodIn_of _ (by decide +kernel)) ggX9_loss_X9_lossOf
theorem dX9_loss_0 : decode cX9_loss 0 = .ok (.iload_n 1, 1) := by decide +kernel
theorem dX9_loss_1 : decode cX9_loss 1 = .ok (.invokestatic 118, 3) := by decide +kernel
theorem dX9_loss_4 : decode cX9_loss 4 = .ok (.ifCond .eq 19, 3) := by decide +kernel
theorem dX9_loss_7 : decode cX9_loss 7 = .ok (.iload_n 2, 1) := by decide +kernel
theorem dX9_loss_8 : decode cX9_loss 8 = .ok (.invokestatic 118, 3) := by decide +kernel
theorem dX9_loss_11 : decode cX9_loss 11 = .ok (.ifCond .eq 12, 3) := by decide +kernel
theorem dX9_loss_14 : decode cX9_loss 14 = .ok (.aload_n 0, 1) := by decide +kernel
theorem dX9_loss_15 : decode cX9_loss 15 = .ok (.iload_n 1, 1) := by decide +kernel
theorem dX9_loss_16 : decode cX9_loss 16 = .ok (.iload_n 2, 1) := by decide +kernel
theorem dX9_loss_17 : decode cX9_loss 17 = .ok (.invokevirtual 71, 3) := by decide +kernel
theorem dX9_loss_20 : decode cX9_loss 20 = .ok (.goto 4, 3) := by decide +kernel
theorem dX9_loss_23 : decode cX9_loss 23 = .ok (.iconst (-1), 1) := by decide +kernel
theorem dX9_loss_24 : decode cX9_loss 24 = .ok (.ireturn, 1) := by decide +kernel
set_option maxRecDepth 20000 in
theorem ggX9_ofSenders_X9_isSender : GoodIn wsX9_ofSenders wsX9_isSender := goodIn_r _ [6, 1, 7, 8, 5, 9, 10, 11, 12, 13, 14, 15, 16, 17, 18, 19, 20, 21, 22, 23, 24, 25, 26, 27] (by decide +kernel) (by decide +kernel)
set_option maxRecDepth 20000 in
theorem gX9_ofSenders_X9_isSender : GoodIn wsX9_ofSenders (wsV RX9 67 RX9 yX9_isSender wsX9_isSender) := goodIn_app (goodIn_of _ (by decide +kernel)) ggX9_ofSenders_X9_isSender
set_option maxRecDepth 20000 in
theorem ggX9_ofSenders_X9_n : GoodIn wsX9_ofSenders wsX9_n := goodIn_r _ [12] (by decide +kernel) (by decide +kernel)
set_option maxRecDepth 20000 in
theorem gX9_ofSenders_X9_n : GoodIn wsX9_ofSenders (va_wsS RX9 50 yX9_n wsX9_n) := goodIn_app (goodIn_of _ (by decide +kernel)) ggX9_ofSenders_X9_n
theorem dX9_ofSenders_0 : decode cX9_ofSenders 0 = .ok (.iconst 0, 1) := by decide +kernel
theorem dX9_ofSenders_1 : decode cX9_ofSenders 1 = .ok (.istore_n 2, 1) := by decide +kernel
theorem dX9_ofSenders_2 : decode cX9_ofSenders 2 = .ok (.iconst 0, 1) := by decide +kernel
theorem dX9_ofSenders_3 : decode cX9_ofSenders 3 = .ok (.istore_n 3, 1) := by decide +kernel
theorem dX9_ofSenders_4 : decode cX9_ofSenders 4 = .ok (.iload_n 3, 1) := by decide +kernel
theorem dX9_ofSenders_5 : decode cX9_ofSenders 5 = .ok (.iconst 5, 1) := by decide +kernel
theorem dX9_ofSenders_6 : decode cX9_ofSenders 6 = .ok (.if_icmp .ge 59, 3) := by decide +kernel
theorem dX9_ofSenders_9 : decode cX9_ofSenders 9 = .ok (.aload_n 0, 1) := by decide +kernel
theorem dX9_ofSenders_10 : decode cX9_ofSenders 10 = .ok (.iload_n 3, 1) := by decide +kernel
theorem dX9_ofSenders_11 : decode cX9_ofSenders 11 = .ok (.invokevirtual 67, 3) := by decide +kernel
theorem dX9_ofSenders_14 : decode cX9_ofSenders 14 = .ok (.ifCond .eq 45, 3) := by decide +kernel
theorem dX9_ofSenders_17 : decode cX9_ofSenders 17 = .ok (.iload_n 2, 1) := by decide +kernel
theorem dX9_ofSenders_18 : decode cX9_ofSenders 18 = .ok (.iload_n 1, 1) := by decide +kernel
theorem dX9_ofSenders_19 : decode cX9_ofSenders 19 = .ok (.iconst 1, 1) := by decide +kernel
theorem dX9_ofSenders_20 : decode cX9_ofSenders 20 = .ok (.if_icmp .ne 7, 3) := by decide +kernel
theorem dX9_ofSenders_23 : decode cX9_ofSenders 23 = .ok (.iconst 1, 1) := by decide +kernel
theorem dX9_ofSenders_24 : decode cX9_ofSenders 24 = .ok (.goto 33, 3) := by decide +kernel
theorem dX9_ofSenders_27 : decode cX9_ofSenders 27 = .ok (.iload_n 1, 1) := by decide +kernel
theorem dX9_ofSenders_28 : decode cX9_ofSenders 28 = .ok (.iconst 4, 1) := by decide +kernel
theorem dX9_ofSenders_29 : decode cX9_ofSenders 29 = .ok (.if_icmp .ne 17, 3) := by decide +kernel
theorem dX9_ofSenders_32 : decode cX9_ofSenders 32 = .ok (.aload_n 0, 1) := by decide +kernel
theorem dX9_ofSenders_33 : decode cX9_ofSenders 33 = .ok (.getfield 7, 3) := by decide +kernel
theorem dX9_ofSenders_36 : decode cX9_ofSenders 36 = .ok (.iload_n 3, 1) := by decide +kernel
theorem dX9_ofSenders_37 : decode cX9_ofSenders 37 = .ok (.invokestatic 50, 3) := by decide +kernel
theorem dX9_ofSenders_40 : decode cX9_ofSenders 40 = .ok (.iconst 4, 1) := by decide +kernel
theorem dX9_ofSenders_41 : decode cX9_ofSenders 41 = .ok (.iadd, 1) := by decide +kernel
theorem dX9_ofSenders_42 : decode cX9_ofSenders 42 = .ok (.iaload, 1) := by decide +kernel
theorem dX9_ofSenders_43 : decode cX9_ofSenders 43 = .ok (.goto 14, 3) := by decide +kernel
theorem dX9_ofSenders_46 : decode cX9_ofSenders 46 = .ok (.aload_n 0, 1) := by decide +kernel
theorem dX9_ofSenders_47 : decode cX9_ofSenders 47 = .ok (.getfield 7, 3) := by decide +kernel
theorem dX9_ofSenders_50 : decode cX9_ofSenders 50 = .ok (.iload_n 3, 1) := by decide +kernel
theorem dX9_ofSenders_51 : decode cX9_ofSenders 51 = .ok (.invokestatic 50, 3) := by decide +kernel
theorem dX9_ofSenders_54 : decode cX9_ofSenders 54 = .ok (.iconst 3, 1) := by decide +kernel
theorem dX9_ofSenders_55 : decode cX9_ofSenders 55 = .ok (.iadd, 1) := by decide +kernel
theorem dX9_ofSenders_56 : decode cX9_ofSenders 56 = .ok (.iaload, 1) := by decide +kernel
theorem dX9_ofSenders_57 : decode cX9_ofSenders 57 = .ok (.iadd, 1) := by decide +kernel
theorem dX9_ofSenders_58 : decode cX9_ofSenders 58 = .ok (.istore_n 2, 1) := by decide +kernel
theorem dX9_ofSenders_59 : decode cX9_ofSenders 59 = .ok (.iinc 3 1, 3) := by decide +kernel
theorem dX9_ofSenders_62 : decode cX9_ofSenders 62 = .ok (.goto (-58), 3) := by decide +kernel
theorem dX9_ofSenders_65 : decode cX9_ofSenders 65 = .ok (.iload_n 2, 1) := by decide +kernel
theorem dX9_ofSenders_66 : decode cX9_ofSenders 66 = .ok (.ireturn, 1) := by decide +kernel
set_option maxRecDepth 20000 in
theorem ggX9_ofLamps_X9_isLamp : GoodIn wsX9_ofLamps wsX9_isLamp := goodIn_r _ [6, 1, 7, 8, 5, 9, 10, 11, 12, 13, 14, 15, 16, 17, 18, 19, 20, 21, 22, 23, 24, 25, 26, 27] (by decide +kernel) (by decide +kernel)
set_option maxRecDepth 20000 in
theorem gX9_ofLamps_X9_isLamp : GoodIn wsX9_ofLamps (wsV RX9 88 RX9 yX9_isLamp wsX9_isLamp) := goodIn_app (goodIn_of _ (by decide +kernel)) ggX9_ofLamps_X9_isLamp
set_option maxRecDepth 20000 in
theorem ggX9_ofLamps_X9_l : GoodIn wsX9_ofLamps wsX9_l := goodIn_r _ [12] (by decide +kernel) (by decide +kernel)
set_option maxRecDepth 20000 in
theorem gX9_ofLamps_X9_l : GoodIn wsX9_ofLamps (va_wsS RX9 56 yX9_l wsX9_l) := goodIn_app (goodIn_of _ (by decide +kernel)) ggX9_ofLamps_X9_l
theorem dX9_ofLamps_0 : decode cX9_ofLamps 0 = .ok (.iconst 0, 1) := by decide +kernel
theorem dX9_ofLamps_1 : decode cX9_ofLamps 1 = .ok (.istore_n 2, 1) := by decide +kernel
theorem dX9_ofLamps_2 : decode cX9_ofLamps 2 = .ok (.iconst 0, 1) := by decide +kernel
theorem dX9_ofLamps_3 : decode cX9_ofLamps 3 = .ok (.istore_n 3, 1) := by decide +kernel
theorem dX9_ofLamps_4 : decode cX9_ofLamps 4 = .ok (.iload_n 3, 1) := by decide +kernel
theorem dX9_ofLamps_5 : decode cX9_ofLamps 5 = .ok (.bipush 8, 2) := by decide +kernel
theorem dX9_ofLamps_7 : decode cX9_ofLamps 7 = .ok (.if_icmp .ge 44, 3) := by decide +kernel
theorem dX9_ofLamps_10 : decode cX9_ofLamps 10 = .ok (.iload_n 2, 1) := by decide +kernel
theorem dX9_ofLamps_11 : decode cX9_ofLamps 11 = .ok (.aload_n 0, 1) := by decide +kernel
theorem dX9_ofLamps_12 : decode cX9_ofLamps 12 = .ok (.iload_n 3, 1) := by decide +kernel
theorem dX9_ofLamps_13 : decode cX9_ofLamps 13 = .ok (.invokevirtual 88, 3) := by decide +kernel
theorem dX9_ofLamps_16 : decode cX9_ofLamps 16 = .ok (.ifCond .eq 26, 3) := by decide +kernel
theorem dX9_ofLamps_19 : decode cX9_ofLamps 19 = .ok (.iload_n 1, 1) := by decide +kernel
theorem dX9_ofLamps_20 : decode cX9_ofLamps 20 = .ok (.iconst 3, 1) := by decide +kernel
theorem dX9_ofLamps_21 : decode cX9_ofLamps 21 = .ok (.if_icmp .eq 17, 3) := by decide +kernel
theorem dX9_ofLamps_24 : decode cX9_ofLamps 24 = .ok (.aload_n 0, 1) := by decide +kernel
theorem dX9_ofLamps_25 : decode cX9_ofLamps 25 = .ok (.getfield 7, 3) := by decide +kernel
theorem dX9_ofLamps_28 : decode cX9_ofLamps 28 = .ok (.iload_n 3, 1) := by decide +kernel
theorem dX9_ofLamps_29 : decode cX9_ofLamps 29 = .ok (.invokestatic 56, 3) := by decide +kernel
theorem dX9_ofLamps_32 : decode cX9_ofLamps 32 = .ok (.iconst 4, 1) := by decide +kernel
theorem dX9_ofLamps_33 : decode cX9_ofLamps 33 = .ok (.iadd, 1) := by decide +kernel
theorem dX9_ofLamps_34 : decode cX9_ofLamps 34 = .ok (.iaload, 1) := by decide +kernel
theorem dX9_ofLamps_35 : decode cX9_ofLamps 35 = .ok (.ifCond .le 7, 3) := by decide +kernel
theorem dX9_ofLamps_38 : decode cX9_ofLamps 38 = .ok (.iconst 1, 1) := by decide +kernel
theorem dX9_ofLamps_39 : decode cX9_ofLamps 39 = .ok (.goto 4, 3) := by decide +kernel
theorem dX9_ofLamps_42 : decode cX9_ofLamps 42 = .ok (.iconst 0, 1) := by decide +kernel
theorem dX9_ofLamps_43 : decode cX9_ofLamps 43 = .ok (.iadd, 1) := by decide +kernel
theorem dX9_ofLamps_44 : decode cX9_ofLamps 44 = .ok (.istore_n 2, 1) := by decide +kernel
theorem dX9_ofLamps_45 : decode cX9_ofLamps 45 = .ok (.iinc 3 1, 3) := by decide +kernel
theorem dX9_ofLamps_48 : decode cX9_ofLamps 48 = .ok (.goto (-44), 3) := by decide +kernel
theorem dX9_ofLamps_51 : decode cX9_ofLamps 51 = .ok (.iload_n 2, 1) := by decide +kernel
theorem dX9_ofLamps_52 : decode cX9_ofLamps 52 = .ok (.ireturn, 1) := by decide +kernel
set_option maxRecDepth 20000 in
theorem ggX9_count_X9_ofSenders : GoodIn wsX9_count wsX9_ofSenders := goodIn_r _ [8, 1, 9, 10, 11, 7, 12, 13, 14, 15, 16, 17, 18, 33, 34, 35, 36, 37, 38, 39, 40, 41, 42, 43, 44, 45, 46, 47] (by decide +kernel) (by decide +kernel)
set_option maxRecDepth 20000 in
theorem gX9_count_X9_ofSenders : GoodIn wsX9_count (wsV RX9 182 RX9 yX9_ofSenders wsX9_ofSenders) := goodIn_app (goodIn_of _ (by decide +kernel)) ggX9_count_X9_ofSenders
set_option maxRecDepth 20000 in
theorem ggX9_count_X9_m : GoodIn wsX9_count wsX9_m := goodIn_r _ [21] (by decide +kernel) (by decide +kernel)
set_option maxRecDepth 20000 in
theorem gX9_count_X9_m : GoodIn wsX9_count (va_wsS RX9 53 yX9_m wsX9_m) := goodIn_app (goodIn_of _ (by decide +kernel)) ggX9_count_X9_m
set_option maxRecDepth 20000 in
theorem ggX9_count_X9_ofLamps : GoodIn wsX9_count wsX9_ofLamps := goodIn_r _ [25, 1, 26, 27, 28, 7, 29, 13, 14, 15, 30, 31, 32, 33, 34, 35, 36, 37, 38, 39, 40, 41, 42, 43, 44, 45, 46, 47] (by decide +kernel) (by decide +kernel)
set_option maxRecDepth 20000 in
theorem gX9_count_X9_ofLamps : GoodIn wsX9_count (wsV RX9 185 RX9 yX9_ofLamps wsX9_ofLamps) := goodIn_app (goodIn_of _ (by decide +kernel)) ggX9_count_X9_ofLamps
theorem dX9_count_0 : decode cX9_count 0 = .ok (.iload_n 1, 1) := by decide +kernel
theorem dX9_count_1 : decode cX9_count 1 = .ok (.tableswitch 146 0 12 #[67, 74, 80, 120, 74, 74, 120, 126, 126, 126, 126, 136, 141], 67) := by decide +kernel
theorem dX9_count_68 : decode cX9_count 68 = .ok (.aload_n 0, 1) := by decide +kernel
theorem dX9_count_69 : decode cX9_count 69 = .ok (.getfield 7, 3) := by decide +kernel
theorem dX9_count_72 : decode cX9_count 72 = .ok (.iconst 4, 1) := by decide +kernel
theorem dX9_count_73 : decode cX9_count 73 = .ok (.iaload, 1) := by decide +kernel
theorem dX9_count_74 : decode cX9_count 74 = .ok (.ireturn, 1) := by decide +kernel
theorem dX9_count_75 : decode cX9_count 75 = .ok (.aload_n 0, 1) := by decide +kernel
theorem dX9_count_76 : decode cX9_count 76 = .ok (.iload_n 1, 1) := by decide +kernel
theorem dX9_count_77 : decode cX9_count 77 = .ok (.invokevirtual 182, 3) := by decide +kernel
theorem dX9_count_80 : decode cX9_count 80 = .ok (.ireturn, 1) := by decide +kernel
theorem dX9_count_81 : decode cX9_count 81 = .ok (.aload_n 0, 1) := by decide +kernel
theorem dX9_count_82 : decode cX9_count 82 = .ok (.getfield 7, 3) := by decide +kernel
theorem dX9_count_85 : decode cX9_count 85 = .ok (.iconst 0, 1) := by decide +kernel
theorem dX9_count_86 : decode cX9_count 86 = .ok (.invokestatic 53, 3) := by decide +kernel
theorem dX9_count_89 : decode cX9_count 89 = .ok (.iaload, 1) := by decide +kernel
theorem dX9_count_90 : decode cX9_count 90 = .ok (.aload_n 0, 1) := by decide +kernel
theorem dX9_count_91 : decode cX9_count 91 = .ok (.getfield 7, 3) := by decide +kernel
theorem dX9_count_94 : decode cX9_count 94 = .ok (.iconst 1, 1) := by decide +kernel
theorem dX9_count_95 : decode cX9_count 95 = .ok (.invokestatic 53, 3) := by decide +kernel
theorem dX9_count_98 : decode cX9_count 98 = .ok (.iaload, 1) := by decide +kernel
theorem dX9_count_99 : decode cX9_count 99 = .ok (.iadd, 1) := by decide +kernel
theorem dX9_count_100 : decode cX9_count 100 = .ok (.aload_n 0, 1) := by decide +kernel
theorem dX9_count_101 : decode cX9_count 101 = .ok (.getfield 7, 3) := by decide +kernel
theorem dX9_count_104 : decode cX9_count 104 = .ok (.iconst 2, 1) := by decide +kernel
theorem dX9_count_105 : decode cX9_count 105 = .ok (.invokestatic 53, 3) := by decide +kernel
theorem dX9_count_108 : decode cX9_count 108 = .ok (.iaload, 1) := by decide +kernel
theorem dX9_count_109 : decode cX9_count 109 = .ok (.iadd, 1) := by decide +kernel
theorem dX9_count_110 : decode cX9_count 110 = .ok (.aload_n 0, 1) := by decide +kernel
theorem dX9_count_111 : decode cX9_count 111 = .ok (.getfield 7, 3) := by decide +kernel
theorem dX9_count_114 : decode cX9_count 114 = .ok (.iconst 3, 1) := by decide +kernel
theorem dX9_count_115 : decode cX9_count 115 = .ok (.invokestatic 53, 3) := by decide +kernel
theorem dX9_count_118 : decode cX9_count 118 = .ok (.iaload, 1) := by decide +kernel
theorem dX9_count_119 : decode cX9_count 119 = .ok (.iadd, 1) := by decide +kernel
theorem dX9_count_120 : decode cX9_count 120 = .ok (.ireturn, 1) := by decide +kernel
theorem dX9_count_121 : decode cX9_count 121 = .ok (.aload_n 0, 1) := by decide +kernel
theorem dX9_count_122 : decode cX9_count 122 = .ok (.iload_n 1, 1) := by decide +kernel
theorem dX9_count_123 : decode cX9_count 123 = .ok (.invokevirtual 185, 3) := by decide +kernel
theorem dX9_count_126 : decode cX9_count 126 = .ok (.ireturn, 1) := by decide +kernel
theorem dX9_count_127 : decode cX9_count 127 = .ok (.aload_n 0, 1) := by decide +kernel
theorem dX9_count_128 : decode cX9_count 128 = .ok (.getfield 7, 3) := by decide +kernel
theorem dX9_count_131 : decode cX9_count 131 = .ok (.iload_n 1, 1) := by decide +kernel
theorem dX9_count_132 : decode cX9_count 132 = .ok (.bipush 7, 2) := by decide +kernel
theorem dX9_count_134 : decode cX9_count 134 = .ok (.isub, 1) := by decide +kernel
theorem dX9_count_135 : decode cX9_count 135 = .ok (.iaload, 1) := by decide +kernel
theorem dX9_count_136 : decode cX9_count 136 = .ok (.ireturn, 1) := by decide +kernel
theorem dX9_count_137 : decode cX9_count 137 = .ok (.aload_n 0, 1) := by decide +kernel
theorem dX9_count_138 : decode cX9_count 138 = .ok (.getfield 59, 3) := by decide +kernel
theorem dX9_count_141 : decode cX9_count 141 = .ok (.ireturn, 1) := by decide +kernel
theorem dX9_count_142 : decode cX9_count 142 = .ok (.aload_n 0, 1) := by decide +kernel
theorem dX9_count_143 : decode cX9_count 143 = .ok (.getfield 141, 3) := by decide +kernel
theorem dX9_count_146 : decode cX9_count 146 = .ok (.ireturn, 1) := by decide +kernel
theorem dX9_count_147 : decode cX9_count 147 = .ok (.bipush (-2), 2) := by decide +kernel
theorem dX9_count_149 : decode cX9_count 149 = .ok (.ireturn, 1) := by decide +kernel
set_option maxRecDepth 20000 in
theorem ggX9_total_X9_in : GoodIn wsX9_total wsX9_in := goodIn_r _ [5] (by decide +kernel) (by decide +kernel)
set_option maxRecDepth 20000 in
theorem gX9_total_X9_in : GoodIn wsX9_total (va_wsS RX9 46 yX9_in wsX9_in) := goodIn_app (goodIn_of _ (by decide +kernel)) ggX9_total_X9_in
theorem dX9_total_0 : decode cX9_total 0 = .ok (.iload_n 1, 1) := by decide +kernel
theorem dX9_total_1 : decode cX9_total 1 = .ok (.iconst 0, 1) := by decide +kernel
theorem dX9_total_2 : decode cX9_total 2 = .ok (.iconst 4, 1) := by decide +kernel
theorem dX9_total_3 : decode cX9_total 3 = .ok (.invokestatic 46, 3) := by decide +kernel
theorem dX9_total_6 : decode cX9_total 6 = .ok (.ifCond .eq 14, 3) := by decide +kernel
theorem dX9_total_9 : decode cX9_total 9 = .ok (.aload_n 0, 1) := by decide +kernel
theorem dX9_total_10 : decode cX9_total 10 = .ok (.getfield 7, 3) := by decide +kernel
theorem dX9_total_13 : decode cX9_total 13 = .ok (.iconst 5, 1) := by decide +kernel
theorem dX9_total_14 : decode cX9_total 14 = .ok (.iload_n 1, 1) := by decide +kernel
theorem dX9_total_15 : decode cX9_total 15 = .ok (.iadd, 1) := by decide +kernel
theorem dX9_total_16 : decode cX9_total 16 = .ok (.iaload, 1) := by decide +kernel
theorem dX9_total_17 : decode cX9_total 17 = .ok (.goto 5, 3) := by decide +kernel
theorem dX9_total_20 : decode cX9_total 20 = .ok (.bipush (-2), 2) := by decide +kernel
theorem dX9_total_22 : decode cX9_total 22 = .ok (.ireturn, 1) := by decide +kernel
set_option maxRecDepth 20000 in
theorem ggX9_silentIn_X9_keepTrial : GoodIn wsX9_silentIn wsX9_keepTrial := goodIn_r _ [5, 6, 7, 101, 102, 103, 104, 105, 106, 107, 108, 109, 110, 111, 112, 113, 114, 115] (by decide +kernel) (by decide +kernel)
set_option maxRecDepth 20000 in
theorem gX9_silentIn_X9_keepTrial : GoodIn wsX9_silentIn (wsV RX9 188 RX9 yX9_keepTrial wsX9_keepTrial) := goodIn_app (goodIn_of _ (by decide +kernel)) ggX9_silentIn_X9_keepTrial
set_option maxRecDepth 20000 in
theorem ggX9_silentIn_X9_ofSenders : GoodIn wsX9_silentIn wsX9_ofSenders := goodIn_r _ [11, 7, 12, 13, 14, 4, 15, 16, 17, 18, 19, 20, 21, 101, 102, 103, 104, 105, 106, 107, 108, 109, 110, 111, 112, 113, 114, 115] (by decide +kernel) (by decide +kernel)
set_option maxRecDepth 20000 in
theorem gX9_silentIn_X9_ofSenders : GoodIn wsX9_silentIn (wsV RX9 182 RX9 yX9_ofSenders wsX9_ofSenders) := goodIn_app (goodIn_of _ (by decide +kernel)) ggX9_silentIn_X9_ofSenders
set_option maxRecDepth 20000 in
theorem ggX9_silentIn_X9_beat : GoodIn wsX9_silentIn wsX9_beat := goodIn_r _ [25, 7, 26, 27, 28, 4, 29, 30, 19, 20, 21, 31, 32, 33, 12, 13, 14, 15, 16, 17, 18, 34, 35, 36, 37, 38, 39, 40, 41, 42, 43, 44, 45, 46, 47, 48, 49, 50, 51, 52, 53, 54, 55, 56, 57, 58, 59, 60, 61, 62, 63, 64, 65, 66, 67, 68, 69, 70, 71, 72, 73, 74, 75, 76, 77, 78, 79, 80, 81, 82, 83, 84, 85, 86, 87, 88, 89, 90, 91, 92, 93, 94, 95, 96, 101, 102, 103, 104, 105, 106, 107, 108, 109, 110, 111, 112, 113, 114, 115] (by decide +kernel) (by decide +kernel)
set_option maxRecDepth 20000 in
theorem gX9_silentIn_X9_beat : GoodIn wsX9_silentIn (wsV RX9 115 RX9 yX9_beat wsX9_beat) := goodIn_app (goodIn_of _ (by decide +kernel)) ggX9_silentIn_X9_beat
set_option maxRecDepth 20000 in
theorem ggX9_silentIn_X9_putBack : GoodIn wsX9_silentIn wsX9_putBack := goodIn_r _ [100, 7, 6, 101, 102, 103, 104, 105, 106, 107, 108, 109, 110, 111, 112, 113, 114, 115] (by decide +kernel) (by decide +kernel)
set_option maxRecDepth 20000 in
theorem gX9_silentIn_X9_putBack : GoodIn wsX9_silentIn (wsV RX9 191 RX9 yX9_putBack wsX9_putBack) := goodIn_app (goodIn_of _ (by decide +kernel)) ggX9_silentIn_X9_putBack
theorem dX9_silentIn_0 : decode cX9_silentIn 0 = .ok (.aload_n 0, 1) := by decide +kernel
theorem dX9_silentIn_1 : decode cX9_silentIn 1 = .ok (.invokevirtual 188, 3) := by decide +kernel
theorem dX9_silentIn_4 : decode cX9_silentIn 4 = .ok (.iconst 0, 1) := by decide +kernel
theorem dX9_silentIn_5 : decode cX9_silentIn 5 = .ok (.istore_n 1, 1) := by decide +kernel
theorem dX9_silentIn_6 : decode cX9_silentIn 6 = .ok (.iload_n 1, 1) := by decide +kernel
theorem dX9_silentIn_7 : decode cX9_silentIn 7 = .ok (.sipush 600, 3) := by decide +kernel
theorem dX9_silentIn_10 : decode cX9_silentIn 10 = .ok (.if_icmp .ge 21, 3) := by decide +kernel
theorem dX9_silentIn_13 : decode cX9_silentIn 13 = .ok (.aload_n 0, 1) := by decide +kernel
theorem dX9_silentIn_14 : decode cX9_silentIn 14 = .ok (.iconst 5, 1) := by decide +kernel
theorem dX9_silentIn_15 : decode cX9_silentIn 15 = .ok (.invokevirtual 182, 3) := by decide +kernel
theorem dX9_silentIn_18 : decode cX9_silentIn 18 = .ok (.ifCond .le 13, 3) := by decide +kernel
theorem dX9_silentIn_21 : decode cX9_silentIn 21 = .ok (.aload_n 0, 1) := by decide +kernel
theorem dX9_silentIn_22 : decode cX9_silentIn 22 = .ok (.invokevirtual 115, 3) := by decide +kernel
theorem dX9_silentIn_25 : decode cX9_silentIn 25 = .ok (.iinc 1 1, 3) := by decide +kernel
theorem dX9_silentIn_28 : decode cX9_silentIn 28 = .ok (.goto (-22), 3) := by decide +kernel
theorem dX9_silentIn_31 : decode cX9_silentIn 31 = .ok (.aload_n 0, 1) := by decide +kernel
theorem dX9_silentIn_32 : decode cX9_silentIn 32 = .ok (.iconst 5, 1) := by decide +kernel
theorem dX9_silentIn_33 : decode cX9_silentIn 33 = .ok (.invokevirtual 182, 3) := by decide +kernel
theorem dX9_silentIn_36 : decode cX9_silentIn 36 = .ok (.ifCond .ne 7, 3) := by decide +kernel
theorem dX9_silentIn_39 : decode cX9_silentIn 39 = .ok (.iconst 1, 1) := by decide +kernel
theorem dX9_silentIn_40 : decode cX9_silentIn 40 = .ok (.goto 4, 3) := by decide +kernel
theorem dX9_silentIn_43 : decode cX9_silentIn 43 = .ok (.iconst 0, 1) := by decide +kernel
theorem dX9_silentIn_44 : decode cX9_silentIn 44 = .ok (.istore_n 2, 1) := by decide +kernel
theorem dX9_silentIn_45 : decode cX9_silentIn 45 = .ok (.aload_n 0, 1) := by decide +kernel
theorem dX9_silentIn_46 : decode cX9_silentIn 46 = .ok (.invokevirtual 191, 3) := by decide +kernel
theorem dX9_silentIn_49 : decode cX9_silentIn 49 = .ok (.iload_n 2, 1) := by decide +kernel
theorem dX9_silentIn_50 : decode cX9_silentIn 50 = .ok (.ifCond .eq 7, 3) := by decide +kernel
theorem dX9_silentIn_53 : decode cX9_silentIn 53 = .ok (.iload_n 1, 1) := by decide +kernel
theorem dX9_silentIn_54 : decode cX9_silentIn 54 = .ok (.goto 5, 3) := by decide +kernel
theorem dX9_silentIn_57 : decode cX9_silentIn 57 = .ok (.bipush (-5), 2) := by decide +kernel
theorem dX9_silentIn_59 : decode cX9_silentIn 59 = .ok (.ireturn, 1) := by decide +kernel
set_option maxRecDepth 20000 in
theorem ggX9_levelIn_X9_isLamp : GoodIn wsX9_levelIn wsX9_isLamp := goodIn_r _ [6, 1, 7, 8, 5, 9, 10, 11, 12, 97, 98, 99, 100, 101, 102, 103, 104, 105, 106, 107, 108, 109, 110, 111] (by decide +kernel) (by decide +kernel)
set_option maxRecDepth 20000 in
theorem gX9_levelIn_X9_isLamp : GoodIn wsX9_levelIn (wsV RX9 88 RX9 yX9_isLamp wsX9_isLamp) := goodIn_app (goodIn_of _ (by decide +kernel)) ggX9_levelIn_X9_isLamp
set_option maxRecDepth 20000 in
theorem ggX9_levelIn_X9_in : GoodIn wsX9_levelIn wsX9_in := goodIn_r _ [9] (by decide +kernel) (by decide +kernel)
set_option maxRecDepth 20000 in
theorem gX9_levelIn_X9_in : GoodIn wsX9_levelIn (va_wsS RX9 46 yX9_in wsX9_in) := goodIn_app (goodIn_of _ (by decide +kernel)) ggX9_levelIn_X9_in
set_option maxRecDepth 20000 in
theorem ggX9_levelIn_X9_keepTrial : GoodIn wsX9_levelIn wsX9_keepTrial := goodIn_r _ [16, 17, 1, 97, 98, 99, 100, 101, 102, 103, 104, 105, 106, 107, 108, 109, 110, 111] (by decide +kernel) (by decide +kernel)
set_option maxRecDepth 20000 in
theorem gX9_levelIn_X9_keepTrial : GoodIn wsX9_levelIn (wsV RX9 188 RX9 yX9_keepTrial wsX9_keepTrial) := goodIn_app (goodIn_of _ (by decide +kernel)) ggX9_levelIn_X9_keepTrial
set_option maxRecDepth 20000 in
theorem ggX9_levelIn_X9_beat : GoodIn wsX9_levelIn wsX9_beat := goodIn_r _ [21, 1, 22, 23, 24, 5, 25, 26, 27, 28, 29, 30, 31, 32, 33, 34, 35, 36, 7, 8, 9, 37, 38, 39, 40, 41, 42, 43, 44, 45, 46, 47, 48, 49, 50, 51, 52, 53, 54, 55, 56, 57, 58, 59, 60, 61, 62, 63, 64, 65, 66, 67, 68, 69, 70, 71, 72, 73, 74, 75, 76, 77, 78, 79, 80, 81, 82, 83, 84, 85, 86, 87, 88, 10, 11, 12, 89, 90, 91, 92, 2, 3, 4, 6, 97, 98, 99, 100, 101, 102, 103, 104, 105, 106, 107, 108, 109, 110, 111] (by decide +kernel) (by decide +kernel)
set_option maxRecDepth 20000 in
theorem gX9_levelIn_X9_beat : GoodIn wsX9_levelIn (wsV RX9 115 RX9 yX9_beat wsX9_beat) := goodIn_app (goodIn_of _ (by decide +kernel)) ggX9_levelIn_X9_beat
set_option maxRecDepth 20000 in
theorem ggX9_levelIn_X9_l : GoodIn wsX9_levelIn wsX9_l := goodIn_r _ [12] (by decide +kernel) (by decide +kernel)
set_option maxRecDepth 20000 in
theorem gX9_levelIn_X9_l : GoodIn wsX9_levelIn (va_wsS RX9 56 yX9_l wsX9_l) := goodIn_app (goodIn_of _ (by decide +kernel)) ggX9_levelIn_X9_l
set_option maxRecDepth 20000 in
theorem ggX9_levelIn_X9_putBack : GoodIn wsX9_levelIn wsX9_putBack := goodIn_r _ [96, 1, 17, 97, 98, 99, 100, 101, 102, 103, 104, 105, 106, 107, 108, 109, 110, 111] (by decide +kernel) (by decide +kernel)
set_option maxRecDepth 20000 in
theorem gX9_levelIn_X9_putBack : GoodIn wsX9_levelIn (wsV RX9 191 RX9 yX9_putBack wsX9_putBack) := goodIn_app (goodIn_of _ (by decide +kernel)) ggX9_levelIn_X9_putBack
theorem dX9_levelIn_0 : decode cX9_levelIn 0 = .ok (.aload_n 0, 1) := by decide +kernel
theorem dX9_levelIn_1 : decode cX9_levelIn 1 = .ok (.iload_n 1, 1) := by decide +kernel
theorem dX9_levelIn_2 : decode cX9_levelIn 2 = .ok (.invokevirtual 88, 3) := by decide +kernel
theorem dX9_levelIn_5 : decode cX9_levelIn 5 = .ok (.ifCond .ne 5, 3) := by decide +kernel
theorem dX9_levelIn_8 : decode cX9_levelIn 8 = .ok (.iconst (-1), 1) := by decide +kernel
theorem dX9_levelIn_9 : decode cX9_levelIn 9 = .ok (.ireturn, 1) := by decide +kernel
theorem dX9_levelIn_10 : decode cX9_levelIn 10 = .ok (.iload_n 2, 1) := by decide +kernel
theorem dX9_levelIn_11 : decode cX9_levelIn 11 = .ok (.iconst 0, 1) := by decide +kernel
theorem dX9_levelIn_12 : decode cX9_levelIn 12 = .ok (.sipush 400, 3) := by decide +kernel
theorem dX9_levelIn_15 : decode cX9_levelIn 15 = .ok (.invokestatic 46, 3) := by decide +kernel
theorem dX9_levelIn_18 : decode cX9_levelIn 18 = .ok (.ifCond .ne 6, 3) := by decide +kernel
theorem dX9_levelIn_21 : decode cX9_levelIn 21 = .ok (.bipush (-2), 2) := by decide +kernel
theorem dX9_levelIn_23 : decode cX9_levelIn 23 = .ok (.ireturn, 1) := by decide +kernel
theorem dX9_levelIn_24 : decode cX9_levelIn 24 = .ok (.aload_n 0, 1) := by decide +kernel
theorem dX9_levelIn_25 : decode cX9_levelIn 25 = .ok (.invokevirtual 188, 3) := by decide +kernel
theorem dX9_levelIn_28 : decode cX9_levelIn 28 = .ok (.iconst 0, 1) := by decide +kernel
theorem dX9_levelIn_29 : decode cX9_levelIn 29 = .ok (.istore_n 3, 1) := by decide +kernel
theorem dX9_levelIn_30 : decode cX9_levelIn 30 = .ok (.iload_n 3, 1) := by decide +kernel
theorem dX9_levelIn_31 : decode cX9_levelIn 31 = .ok (.iload_n 2, 1) := by decide +kernel
theorem dX9_levelIn_32 : decode cX9_levelIn 32 = .ok (.if_icmp .ge 13, 3) := by decide +kernel
theorem dX9_levelIn_35 : decode cX9_levelIn 35 = .ok (.aload_n 0, 1) := by decide +kernel
theorem dX9_levelIn_36 : decode cX9_levelIn 36 = .ok (.invokevirtual 115, 3) := by decide +kernel
theorem dX9_levelIn_39 : decode cX9_levelIn 39 = .ok (.iinc 3 1, 3) := by decide +kernel
theorem dX9_levelIn_42 : decode cX9_levelIn 42 = .ok (.goto (-12), 3) := by decide +kernel
theorem dX9_levelIn_45 : decode cX9_levelIn 45 = .ok (.aload_n 0, 1) := by decide +kernel
theorem dX9_levelIn_46 : decode cX9_levelIn 46 = .ok (.getfield 7, 3) := by decide +kernel
theorem dX9_levelIn_49 : decode cX9_levelIn 49 = .ok (.iload_n 1, 1) := by decide +kernel
theorem dX9_levelIn_50 : decode cX9_levelIn 50 = .ok (.invokestatic 56, 3) := by decide +kernel
theorem dX9_levelIn_53 : decode cX9_levelIn 53 = .ok (.iconst 4, 1) := by decide +kernel
theorem dX9_levelIn_54 : decode cX9_levelIn 54 = .ok (.iadd, 1) := by decide +kernel
theorem dX9_levelIn_55 : decode cX9_levelIn 55 = .ok (.iaload, 1) := by decide +kernel
theorem dX9_levelIn_56 : decode cX9_levelIn 56 = .ok (.istore_n 3, 1) := by decide +kernel
theorem dX9_levelIn_57 : decode cX9_levelIn 57 = .ok (.aload_n 0, 1) := by decide +kernel
theorem dX9_levelIn_58 : decode cX9_levelIn 58 = .ok (.invokevirtual 191, 3) := by decide +kernel
theorem dX9_levelIn_61 : decode cX9_levelIn 61 = .ok (.iload_n 3, 1) := by decide +kernel
theorem dX9_levelIn_62 : decode cX9_levelIn 62 = .ok (.ireturn, 1) := by decide +kernel
theorem dX9_freshness_0 : decode cX9_freshness 0 = .ok (.aload_n 0, 1) := by decide +kernel
theorem dX9_freshness_1 : decode cX9_freshness 1 = .ok (.getfield 7, 3) := by decide +kernel
theorem dX9_freshness_4 : decode cX9_freshness 4 = .ok (.bipush 7, 2) := by decide +kernel
theorem dX9_freshness_6 : decode cX9_freshness 6 = .ok (.iaload, 1) := by decide +kernel
theorem dX9_freshness_7 : decode cX9_freshness 7 = .ok (.aload_n 0, 1) := by decide +kernel
theorem dX9_freshness_8 : decode cX9_freshness 8 = .ok (.getfield 7, 3) := by decide +kernel
theorem dX9_freshness_11 : decode cX9_freshness 11 = .ok (.bipush 8, 2) := by decide +kernel
theorem dX9_freshness_13 : decode cX9_freshness 13 = .ok (.iaload, 1) := by decide +kernel
theorem dX9_freshness_14 : decode cX9_freshness 14 = .ok (.iadd, 1) := by decide +kernel
theorem dX9_freshness_15 : decode cX9_freshness 15 = .ok (.aload_n 0, 1) := by decide +kernel
theorem dX9_freshness_16 : decode cX9_freshness 16 = .ok (.getfield 7, 3) := by decide +kernel
theorem dX9_freshness_19 : decode cX9_freshness 19 = .ok (.bipush 9, 2) := by decide +kernel
theorem dX9_freshness_21 : decode cX9_freshness 21 = .ok (.iaload, 1) := by decide +kernel
theorem dX9_freshness_22 : decode cX9_freshness 22 = .ok (.iadd, 1) := by decide +kernel
theorem dX9_freshness_23 : decode cX9_freshness 23 = .ok (.istore_n 1, 1) := by decide +kernel
theorem dX9_freshness_24 : decode cX9_freshness 24 = .ok (.iload_n 1, 1) := by decide +kernel
theorem dX9_freshness_25 : decode cX9_freshness 25 = .ok (.ifCond .ne 7, 3) := by decide +kernel
theorem dX9_freshness_28 : decode cX9_freshness 28 = .ok (.fconst 0, 1) := by decide +kernel
theorem dX9_freshness_29 : decode cX9_freshness 29 = .ok (.goto 14, 3) := by decide +kernel
theorem dX9_freshness_32 : decode cX9_freshness 32 = .ok (.aload_n 0, 1) := by decide +kernel
theorem dX9_freshness_33 : decode cX9_freshness 33 = .ok (.getfield 7, 3) := by decide +kernel
theorem dX9_freshness_36 : decode cX9_freshness 36 = .ok (.bipush 7, 2) := by decide +kernel
theorem dX9_freshness_38 : decode cX9_freshness 38 = .ok (.iaload, 1) := by decide +kernel
theorem dX9_freshness_39 : decode cX9_freshness 39 = .ok (.i2f, 1) := by decide +kernel
theorem dX9_freshness_40 : decode cX9_freshness 40 = .ok (.iload_n 1, 1) := by decide +kernel
theorem dX9_freshness_41 : decode cX9_freshness 41 = .ok (.i2f, 1) := by decide +kernel
theorem dX9_freshness_42 : decode cX9_freshness 42 = .ok (.fdiv, 1) := by decide +kernel
theorem dX9_freshness_43 : decode cX9_freshness 43 = .ok (.freturn, 1) := by decide +kernel
