/-! LEVEL 3: the words of the law among the tables, by pieces, on -/
set_option maxRecDepth 20000 in
theorem q_wsL_law_r33 : ∀ w ∈ wsL_law_r33, w ∈ lw_tbl := m_ps [216, 214, 219, 221, 223, 1018, 1019, 1020, 1021, 701, 702, 703, 704, 705, 706, 1022, 1023, 1024, 1025, 707, 708, 709, 710, 711] (by decide +kernel)
set_option maxRecDepth 20000 in
theorem q_wsL_law_r34 : ∀ w ∈ wsL_law_r34, w ∈ lw_tbl := m_ps [1026, 1027, 1028, 1029, 712, 713, 714, 715, 240, 242, 244, 716, 717, 718, 719, 720, 721, 722, 723, 724, 725, 726, 727, 728] (by decide +kernel)
set_option maxRecDepth 20000 in
theorem q_wsL_law_r35 : ∀ w ∈ wsL_law_r35, w ∈ lw_tbl := m_ps [729, 730, 121, 190, 1030, 1031, 1032, 1033, 1034, 1036, 44, 1037, 1038, 1040, 45, 1041, 731, 732, 733, 734, 250, 1042, 1043, 1044] (by decide +kernel)
set_option maxRecDepth 20000 in
theorem q_wsL_law_r36 : ∀ w ∈ wsL_law_r36, w ∈ lw_tbl := m_ps [1045, 735, 736, 737, 738, 739, 1046, 1047, 1048, 1049, 1050, 1052, 46, 1053, 1054, 1056, 47, 1057, 740, 741, 742, 743, 1058, 1059] (by decide +kernel)
set_option maxRecDepth 20000 in
theorem q_wsL_law_r37 : ∀ w ∈ wsL_law_r37, w ∈ lw_tbl := m_ps [1060, 1061, 744, 745, 746, 747, 1062, 1063, 1064, 1065] (by decide +kernel)
set_option maxRecDepth 20000 in
theorem q_wsX80 : ∀ w ∈ wsX80, w ∈ lw_tbl := m_ps [308, 310, 312, 314, 316, 318] (by decide +kernel)
set_option maxRecDepth 20000 in
theorem q_wsX90 : ∀ w ∈ wsX90, w ∈ lw_tbl := m_ps [772, 774, 776, 778, 780, 782, 784, 786, 788, 790, 792, 794, 796, 798, 800] (by decide +kernel)
set_option maxRecDepth 20000 in
theorem q_wsX30 : ∀ w ∈ wsX30, w ∈ lw_tbl := m_ps [254, 256, 258, 260, 262, 264, 266, 268] (by decide +kernel)
set_option maxRecDepth 20000 in
theorem q_wsX00 : ∀ w ∈ wsX00, w ∈ lw_tbl := m_ps [283, 285] (by decide +kernel)
set_option maxRecDepth 20000 in
theorem q_wsX50 : ∀ w ∈ wsX50, w ∈ lw_tbl := m_ps [297, 299] (by decide +kernel)
set_option maxRecDepth 20000 in
theorem q_wsX60 : ∀ w ∈ wsX60, w ∈ lw_tbl := m_ps [149, 151, 153, 135, 137, 139, 141, 143, 145, 147] (by decide +kernel)
set_option maxRecDepth 20000 in
theorem q_wsX20 : ∀ w ∈ wsX20, w ∈ lw_tbl := m_ps [176, 177, 178, 170, 172, 174] (by decide +kernel)
set_option maxRecDepth 20000 in
theorem q_wsX10 : ∀ w ∈ wsX10, w ∈ lw_tbl := m_ps [202, 203, 204, 194, 196, 198, 200] (by decide +kernel)
set_option maxRecDepth 20000 in
theorem q_wsX40 : ∀ w ∈ wsX40, w ∈ lw_tbl := m_ps [224, 226, 228, 230, 232, 234, 236] (by decide +kernel)
theorem wsL_law_in : ∀ w ∈ wsL_law, w ∈ lw_tbl := (m_app (m_app (m_app (m_app (m_app (m_app (m_app (m_app (m_app (m_app (m_app q_wsL_law_r1 (m_app q_wsL_law_r2 (m_app q_wsL_law_r3 (m_app q_wsL_law_r4 (m_app q_wsL_law_r5 (m_app q_wsL_law_r6 (m_app q_wsL_law_r7 (m_app q_wsL_law_r8 (m_app q_wsL_law_r9 (m_app q_wsL_law_r10 (m_app q_wsL_law_r11 (m_app q_wsL_law_r12 (m_app q_wsL_law_r13 (m_app q_wsL_law_r14 (m_app q_wsL_law_r15 (m_app q_wsL_law_r16 (m_app q_wsL_law_r17 (m_app q_wsL_law_r18 (m_app q_wsL_law_r19 (m_app q_wsL_law_r20 (m_app q_wsL_law_r21 (m_app q_wsL_law_r22 (m_app q_wsL_law_r23 (m_app q_wsL_law_r24 (m_app q_wsL_law_r25 (m_app q_wsL_law_r26 (m_app q_wsL_law_r27 (m_app q_wsL_law_r28 (m_app q_wsL_law_r29 (m_app q_wsL_law_r30 (m_app q_wsL_law_r31 (m_app q_wsL_law_r32 (m_app q_wsL_law_r33 (m_app q_wsL_law_r34 (m_app q_wsL_law_r35 (m_app q_wsL_law_r36 q_wsL_law_r37)))))))))))))))))))))))))))))))))))) q_wsX80) q_wsX90) q_wsX30) q_wsX00) q_wsX50) q_wsX60) q_wsX20) q_wsX10) q_wsX40) (fun _ h => absurd h List.not_mem_nil))
theorem inlX0 : ∀ w ∈ wsX00, w ∈ wsL_law := fun _ h => List.mem_append_left _ (List.mem_append_left _ (List.mem_append_left _ (List.mem_append_left _ (List.mem_append_left _ (List.mem_append_left _ (List.mem_append_right _ h))))))
theorem inX0 : ∀ w ∈ wsX00, w ∈ lw_tbl := fun w h => wsL_law_in w (inlX0 w h)
theorem inlX1 : ∀ w ∈ wsX10, w ∈ wsL_law := fun _ h => List.mem_append_left _ (List.mem_append_left _ (List.mem_append_right _ h))
theorem inX1 : ∀ w ∈ wsX10, w ∈ lw_tbl := fun w h => wsL_law_in w (inlX1 w h)
theorem inlX2 : ∀ w ∈ wsX20, w ∈ wsL_law := fun _ h => List.mem_append_left _ (List.mem_append_left _ (List.mem_append_left _ (List.mem_append_right _ h)))
theorem inX2 : ∀ w ∈ wsX20, w ∈ lw_tbl := fun w h => wsL_law_in w (inlX2 w h)
theorem inlX3 : ∀ w ∈ wsX30, w ∈ wsL_law := fun _ h => List.mem_append_left _ (List.mem_append_left _ (List.mem_append_left _ (List.mem_append_left _ (List.mem_append_left _ (List.mem_append_left _ (List.mem_append_left _ (List.mem_append_right _ h)))))))
theorem inX3 : ∀ w ∈ wsX30, w ∈ lw_tbl := fun w h => wsL_law_in w (inlX3 w h)
theorem inlX4 : ∀ w ∈ wsX40, w ∈ wsL_law := fun _ h => List.mem_append_left _ (List.mem_append_right _ h)
theorem inX4 : ∀ w ∈ wsX40, w ∈ lw_tbl := fun w h => wsL_law_in w (inlX4 w h)
theorem inlX5 : ∀ w ∈ wsX50, w ∈ wsL_law := fun _ h => List.mem_append_left _ (List.mem_append_left _ (List.mem_append_left _ (List.mem_append_left _ (List.mem_append_left _ (List.mem_append_right _ h)))))
theorem inX5 : ∀ w ∈ wsX50, w ∈ lw_tbl := fun w h => wsL_law_in w (inlX5 w h)
theorem inlX6 : ∀ w ∈ wsX60, w ∈ wsL_law := fun _ h => List.mem_append_left _ (List.mem_append_left _ (List.mem_append_left _ (List.mem_append_left _ (List.mem_append_right _ h))))
theorem inX6 : ∀ w ∈ wsX60, w ∈ lw_tbl := fun w h => wsL_law_in w (inlX6 w h)
theorem inlX8 : ∀ w ∈ wsX80, w ∈ wsL_law := fun _ h => List.mem_append_left _ (List.mem_append_left _ (List.mem_append_left _ (List.mem_append_left _ (List.mem_append_left _ (List.mem_append_left _ (List.mem_append_left _ (List.mem_append_left _ (List.mem_append_left _ (List.mem_append_right _ h)))))))))
theorem inX8 : ∀ w ∈ wsX80, w ∈ lw_tbl := fun w h => wsL_law_in w (inlX8 w h)
theorem inlX9 : ∀ w ∈ wsX90, w ∈ wsL_law := fun _ h => List.mem_append_left _ (List.mem_append_left _ (List.mem_append_left _ (List.mem_append_left _ (List.mem_append_left _ (List.mem_append_left _ (List.mem_append_left _ (List.mem_append_left _ (List.mem_append_right _ h))))))))
theorem inX9 : ∀ w ∈ wsX90, w ∈ lw_tbl := fun w h => wsL_law_in w (inlX9 w h)
