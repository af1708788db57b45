/-! LEVEL 3: the words of the law among the tables, by pieces -/
theorem m_ps {ws big : List Cond} (ps : List Nat) (h : ws = ps.filterMap (fun i => big[i]?)) : ∀ w ∈ ws, w ∈ big := by
  intro w hw
  rw [h] at hw
  obtain ⟨i, -, hi⟩ := List.mem_filterMap.mp hw
  exact List.mem_of_getElem? hi
theorem m_app {big a b : List Cond} (ha : ∀ w ∈ a, w ∈ big) (hb : ∀ w ∈ b, w ∈ big) : ∀ w ∈ a ++ b, w ∈ big := fun w h => (List.mem_append.mp h).elim (ha w) (hb w)
set_option maxRecDepth 20000 in
theorem q_wsL_law_r1 : ∀ w ∈ wsL_law_r1, w ∈ lw_tbl := m_ps [59, 60, 49, 748, 749, 58, 61, 62, 63, 64, 65, 66, 67, 68, 50, 302, 303, 304, 305, 271, 272, 56, 306, 288] (by decide +kernel)
set_option maxRecDepth 20000 in
theorem q_wsL_law_r2 : ∀ w ∈ wsL_law_r2, w ∈ lw_tbl := m_ps [289, 57, 307, 69, 70, 71, 72, 73, 239, 75, 241, 77, 243, 79, 245, 156, 247, 249, 251, 157, 253, 81, 52, 158] (by decide +kernel)
set_option maxRecDepth 20000 in
theorem q_wsL_law_r3 : ∀ w ∈ wsL_law_r3, w ∈ lw_tbl := m_ps [53, 180, 54, 206, 55, 82, 83, 84, 89, 90, 93, 96, 98, 100, 102, 85, 86, 51, 87, 88, 112, 122, 104, 159] (by decide +kernel)
set_option maxRecDepth 20000 in
theorem q_wsL_law_r4 : ∀ w ∈ wsL_law_r4, w ∈ lw_tbl := m_ps [160, 161, 163, 166, 168, 162, 181, 182, 183, 185, 187, 189, 192, 184, 208, 209, 210, 211, 213, 215, 217, 218, 220, 222] (by decide +kernel)
set_option maxRecDepth 20000 in
theorem q_wsL_law_r5 : ∀ w ∈ wsL_law_r5, w ∈ lw_tbl := m_ps [273, 274, 275, 276, 277, 280, 281, 279, 291, 292, 293, 294, 295, 750, 751, 752, 753, 757, 758, 759, 760, 761, 762, 763] (by decide +kernel)
set_option maxRecDepth 20000 in
theorem q_wsL_law_r6 : ∀ w ∈ wsL_law_r6, w ∈ lw_tbl := m_ps [764, 765, 803, 766, 754, 755, 756, 321, 322, 323, 324, 105, 106, 325, 326, 327, 328, 329, 330, 331, 73, 333, 334, 119] (by decide +kernel)
set_option maxRecDepth 20000 in
theorem q_wsL_law_r7 : ∀ w ∈ wsL_law_r7, w ∈ lw_tbl := m_ps [335, 336, 337, 338, 339, 341, 0, 342, 343, 344, 345, 346, 347, 348, 349, 350, 351, 352, 354, 355, 356, 358, 359, 360] (by decide +kernel)
set_option maxRecDepth 20000 in
theorem q_wsL_law_r8 : ∀ w ∈ wsL_law_r8, w ∈ lw_tbl := m_ps [361, 362, 363, 364, 365, 366, 367, 368, 369, 370, 371, 372, 373, 374, 375, 376, 377, 379, 380, 381, 382, 113, 114, 123] (by decide +kernel)
set_option maxRecDepth 20000 in
theorem q_wsL_law_r9 : ∀ w ∈ wsL_law_r9, w ∈ lw_tbl := m_ps [124, 804, 805, 806, 807, 808, 809, 810, 811, 812, 813, 814, 816, 14, 817, 818, 820, 15, 821, 822, 823, 824, 825, 827] (by decide +kernel)
set_option maxRecDepth 20000 in
theorem q_wsL_law_r10 : ∀ w ∈ wsL_law_r10, w ∈ lw_tbl := m_ps [16, 828, 829, 831, 17, 832, 769, 383, 384, 385, 386, 107, 108, 387, 388, 389, 390, 75, 391, 392, 393, 394, 115, 116] (by decide +kernel)
set_option maxRecDepth 20000 in
theorem q_wsL_law_r11 : ∀ w ∈ wsL_law_r11, w ∈ lw_tbl := m_ps [125, 126, 833, 834, 835, 836, 837, 838, 839, 395, 396, 397, 398, 109, 110, 399, 400, 401, 402, 77, 403, 404, 405, 406] (by decide +kernel)
set_option maxRecDepth 20000 in
theorem q_wsL_law_r12 : ∀ w ∈ wsL_law_r12, w ∈ lw_tbl := m_ps [117, 118, 127, 128, 840, 841, 842, 843, 844, 845, 846, 407, 408, 409, 410, 129, 411, 412, 413, 414, 415, 416, 417, 847] (by decide +kernel)
set_option maxRecDepth 20000 in
theorem q_wsL_law_r13 : ∀ w ∈ wsL_law_r13, w ∈ lw_tbl := m_ps [848, 849, 850, 851, 853, 18, 854, 855, 857, 19, 858, 859, 861, 20, 862, 418, 419, 420, 421, 422, 423, 424, 425, 426] (by decide +kernel)
set_option maxRecDepth 20000 in
theorem q_wsL_law_r14 : ∀ w ∈ wsL_law_r14, w ∈ lw_tbl := m_ps [427, 428, 429, 432, 433, 434, 435, 436, 437, 438, 439, 440, 441, 91, 442, 443, 444, 445, 863, 864, 865, 866, 867, 869] (by decide +kernel)
set_option maxRecDepth 20000 in
theorem q_wsL_law_r15 : ∀ w ∈ wsL_law_r15, w ∈ lw_tbl := m_ps [21, 870, 446, 447, 448, 449, 169, 450, 451, 452, 453, 454, 455, 456, 871, 872, 873, 874, 457, 458, 459, 460, 461, 463] (by decide +kernel)
set_option maxRecDepth 20000 in
theorem q_wsL_law_r16 : ∀ w ∈ wsL_law_r16, w ∈ lw_tbl := m_ps [248, 875, 876, 877, 878, 465, 466, 467, 468, 469, 470, 471, 472, 473, 474, 475, 476, 477, 479, 1, 480, 120, 131, 481] (by decide +kernel)
