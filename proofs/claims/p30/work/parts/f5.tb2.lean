/-! LEVEL 3: the words of the law among the tables, by pieces, on -/
set_option maxRecDepth 20000 in
theorem q_wsL_law_r12 : ∀ w ∈ wsL_law_r12, w ∈ lw_tbl := m_ps [428, 520, 521, 522, 523, 524, 526, 9, 527, 528, 530, 10, 531, 532, 534, 11, 535, 536, 538, 12, 539, 540, 541, 542] (by decide +kernel)
set_option maxRecDepth 20000 in
theorem q_wsL_law_r13 : ∀ w ∈ wsL_law_r13, w ∈ lw_tbl := m_ps [543, 544, 545, 546, 547, 80, 81, 90, 91, 548, 549, 550, 551, 552, 553, 554, 555, 556, 558, 13, 559, 560, 561, 562] (by decide +kernel)
set_option maxRecDepth 20000 in
theorem q_wsL_law_r14 : ∀ w ∈ wsL_law_r14, w ∈ lw_tbl := m_ps [563, 286, 287, 288, 289, 70, 290, 291, 292, 293, 294, 295, 296, 38, 298, 299, 84, 344, 345, 346, 347, 88, 348, 349] (by decide +kernel)
set_option maxRecDepth 20000 in
theorem q_wsL_law_r15 : ∀ w ∈ wsL_law_r15, w ∈ lw_tbl := m_ps [350, 351, 74, 75, 352, 353, 354, 355, 42, 356, 357, 358, 359, 360, 361, 362, 363, 364, 365, 366, 367, 368, 369, 370] (by decide +kernel)
set_option maxRecDepth 20000 in
theorem q_wsL_law_r16 : ∀ w ∈ wsL_law_r16, w ∈ lw_tbl := m_ps [371, 373, 374, 376, 377, 378, 379, 380, 381, 382, 383, 384, 385, 386, 387, 388, 389, 411, 412, 413, 414, 415, 416, 564] (by decide +kernel)
set_option maxRecDepth 20000 in
theorem q_wsL_law_r17 : ∀ w ∈ wsL_law_r17, w ∈ lw_tbl := by unfold wsL_law_r17; exact (memc (List.mem_of_getElem? (i := 565) rfl) (memc (List.mem_of_getElem? (i := 14) rfl) (memc (List.mem_of_getElem? (i := 566) rfl) (memc (List.mem_of_getElem? (i := 567) rfl) (memc (List.mem_of_getElem? (i := 568) rfl) (memc (List.mem_of_getElem? (i := 638) rfl) (memc (List.mem_of_getElem? (i := 639) rfl) (memc (List.mem_of_getElem? (i := 640) rfl) (memc (List.mem_of_getElem? (i := 419) rfl) (memc (List.mem_of_getElem? (i := 420) rfl) (memc (List.mem_of_getElem? (i := 421) rfl) (memc (List.mem_of_getElem? (i := 422) rfl) (memc (List.mem_of_getElem? (i := 205) rfl) (memc (List.mem_of_getElem? (i := 207) rfl) (memc (List.mem_of_getElem? (i := 209) rfl) (memc (List.mem_of_getElem? (i := 213) rfl) (memc (List.mem_of_getElem? (i := 261) rfl) (memc (List.mem_of_getElem? (i := 423) rfl) (memc (List.mem_of_getElem? (i := 424) rfl) (memc (List.mem_of_getElem? (i := 425) rfl) (memc (List.mem_of_getElem? (i := 426) rfl) (memc (List.mem_of_getElem? (i := 429) rfl) (memc (List.mem_of_getElem? (i := 430) rfl) (memc (List.mem_of_getElem? (i := 431) rfl) memn))))))))))))))))))))))))
set_option maxRecDepth 20000 in
theorem q_wsL_law_r18 : ∀ w ∈ wsL_law_r18, w ∈ lw_tbl := m_ps [432, 442, 443, 444, 445, 86, 155, 572, 573, 574, 575, 95, 59, 57, 62, 66, 64, 68, 576, 577, 641, 642, 643, 644] (by decide +kernel)
set_option maxRecDepth 20000 in
theorem q_wsL_law_r19 : ∀ w ∈ wsL_law_r19, w ∈ lw_tbl := m_ps [72, 73, 645, 646, 647, 648, 40, 649, 650, 651, 652, 92, 578, 579, 580, 581, 97, 129, 132, 134, 582, 583, 584, 585] (by decide +kernel)
set_option maxRecDepth 20000 in
theorem q_wsL_law_r20 : ∀ w ∈ wsL_law_r20, w ∈ lw_tbl := m_ps [653, 654, 655, 656, 586, 587, 588, 589, 98, 151, 153, 156, 158, 590, 591, 592, 593, 657, 658, 659, 660, 94, 661, 662] (by decide +kernel)
set_option maxRecDepth 20000 in
theorem q_wsL_law_r21 : ∀ w ∈ wsL_law_r21, w ∈ lw_tbl := m_ps [663, 664, 665, 666, 667, 668, 669, 670, 672, 598, 599, 600, 601, 602, 603, 604, 605, 623, 624, 625, 626, 215, 634, 635] (by decide +kernel)
set_option maxRecDepth 20000 in
theorem q_wsL_law_r22 : ∀ w ∈ wsL_law_r22, w ∈ lw_tbl := by unfold wsL_law_r22; exact (memc (List.mem_of_getElem? (i := 636) rfl) (memc (List.mem_of_getElem? (i := 637) rfl) (memc (List.mem_of_getElem? (i := 610) rfl) (memc (List.mem_of_getElem? (i := 611) rfl) (memc (List.mem_of_getElem? (i := 612) rfl) (memc (List.mem_of_getElem? (i := 613) rfl) (memc (List.mem_of_getElem? (i := 614) rfl) (memc (List.mem_of_getElem? (i := 569) rfl) (memc (List.mem_of_getElem? (i := 570) rfl) (memc (List.mem_of_getElem? (i := 571) rfl) (memc (List.mem_of_getElem? (i := 594) rfl) (memc (List.mem_of_getElem? (i := 595) rfl) (memc (List.mem_of_getElem? (i := 596) rfl) (memc (List.mem_of_getElem? (i := 597) rfl) (memc (List.mem_of_getElem? (i := 211) rfl) (memc (List.mem_of_getElem? (i := 177) rfl) (memc (List.mem_of_getElem? (i := 181) rfl) (memc (List.mem_of_getElem? (i := 179) rfl) (memc (List.mem_of_getElem? (i := 184) rfl) (memc (List.mem_of_getElem? (i := 186) rfl) (memc (List.mem_of_getElem? (i := 188) rfl) (memc (List.mem_of_getElem? (i := 606) rfl) (memc (List.mem_of_getElem? (i := 607) rfl) (memc (List.mem_of_getElem? (i := 608) rfl) memn))))))))))))))))))))))))
