/-! LEVEL 3: the words of the law among the tables, by pieces -/
theorem m_ps {ws big : List Cond} (ps : List Nat) (h : ws = ps.filterMap (fun i => big[i]?)) : ∀ w ∈ ws, w ∈ big := by
  intro w hw
  rw [h] at hw
  obtain ⟨i, -, hi⟩ := List.mem_filterMap.mp hw
  exact List.mem_of_getElem? hi
theorem m_app {big a b : List Cond} (ha : ∀ w ∈ a, w ∈ big) (hb : ∀ w ∈ b, w ∈ big) : ∀ w ∈ a ++ b, w ∈ big := fun w h => (List.mem_append.mp h).elim (ha w) (hb w)
set_option maxRecDepth 20000 in
theorem q_wsL_law_r1 : ∀ w ∈ wsL_law_r1, w ∈ lw_tbl := m_ps [24, 25, 15, 26, 27, 28, 29, 30, 31, 32, 33, 16, 267, 268, 269, 270, 236, 237, 22, 271, 253, 254, 23, 272] (by decide +kernel)
set_option maxRecDepth 20000 in
theorem q_wsL_law_r2 : ∀ w ∈ wsL_law_r2, w ∈ lw_tbl := m_ps [34, 35, 36, 37, 38, 204, 40, 206, 42, 208, 44, 210, 121, 212, 214, 216, 122, 218, 46, 18, 123, 19, 145, 20] (by decide +kernel)
set_option maxRecDepth 20000 in
theorem q_wsL_law_r3 : ∀ w ∈ wsL_law_r3, w ∈ lw_tbl := m_ps [171, 21, 47, 48, 49, 54, 55, 58, 61, 63, 65, 67, 50, 51, 17, 52, 53, 77, 87, 69, 124, 125, 126, 128] (by decide +kernel)
set_option maxRecDepth 20000 in
theorem q_wsL_law_r4 : ∀ w ∈ wsL_law_r4, w ∈ lw_tbl := m_ps [131, 133, 127, 146, 147, 148, 150, 152, 154, 157, 149, 173, 174, 175, 176, 178, 180, 182, 183, 185, 187, 238, 239, 240] (by decide +kernel)
set_option maxRecDepth 20000 in
theorem q_wsL_law_r5 : ∀ w ∈ wsL_law_r5, w ∈ lw_tbl := m_ps [241, 242, 245, 246, 244, 256, 257, 258, 259, 260, 390, 391, 392, 393, 247, 394, 395, 396, 397, 398, 399, 400, 401, 308] (by decide +kernel)
set_option maxRecDepth 20000 in
theorem q_wsL_law_r6 : ∀ w ∈ wsL_law_r6, w ∈ lw_tbl := m_ps [309, 310, 311, 312, 313, 314, 315, 316, 317, 319, 320, 321, 323, 324, 325, 326, 327, 328, 329, 330, 331, 332, 333, 334] (by decide +kernel)
set_option maxRecDepth 20000 in
theorem q_wsL_law_r7 : ∀ w ∈ wsL_law_r7, w ∈ lw_tbl := m_ps [335, 336, 337, 338, 339, 340, 341, 342, 407, 408, 409, 410, 217, 300, 301, 302, 303, 304, 306, 0, 307, 406, 446, 447] (by decide +kernel)
set_option maxRecDepth 20000 in
theorem q_wsL_law_r8 : ∀ w ∈ wsL_law_r8, w ∈ lw_tbl := m_ps [448, 449, 438, 439, 440, 441, 85, 79, 56, 450, 451, 452, 453, 454, 456, 1, 457, 96, 89, 458, 460, 2, 461, 462] (by decide +kernel)
set_option maxRecDepth 20000 in
theorem q_wsL_law_r9 : ∀ w ∈ wsL_law_r9, w ∈ lw_tbl := m_ps [463, 464, 465, 466, 467, 468, 469, 470, 472, 3, 473, 60, 99, 93, 130, 433, 434, 435, 436, 78, 474, 475, 476, 477] (by decide +kernel)
set_option maxRecDepth 20000 in
theorem q_wsL_law_r10 : ∀ w ∈ wsL_law_r10, w ∈ lw_tbl := m_ps [417, 418, 479, 481, 4, 482, 483, 484, 485, 486, 487, 488, 489, 490, 82, 83, 491, 493, 5, 494, 495, 497, 6, 498] (by decide +kernel)
set_option maxRecDepth 20000 in
theorem q_wsL_law_r11 : ∀ w ∈ wsL_law_r11, w ∈ lw_tbl := m_ps [499, 500, 501, 502, 503, 504, 505, 506, 507, 76, 71, 508, 509, 510, 511, 512, 514, 7, 515, 516, 518, 8, 519, 427] (by decide +kernel)
