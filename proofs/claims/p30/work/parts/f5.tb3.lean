/-! LEVEL 3: the words of the law among the tables, by pieces, on -/
set_option maxRecDepth 20000 in
theorem q_wsL_law_r23 : ∀ w ∈ wsL_law_r23, w ∈ lw_tbl := by unfold wsL_law_r23; exact (memc (List.mem_of_getElem? (i := 609) rfl) (memc (List.mem_of_getElem? (i := 615) rfl) (memc (List.mem_of_getElem? (i := 616) rfl) (memc (List.mem_of_getElem? (i := 617) rfl) (memc (List.mem_of_getElem? (i := 618) rfl) (memc (List.mem_of_getElem? (i := 619) rfl) (memc (List.mem_of_getElem? (i := 620) rfl) (memc (List.mem_of_getElem? (i := 621) rfl) (memc (List.mem_of_getElem? (i := 622) rfl) (memc (List.mem_of_getElem? (i := 627) rfl) (memc (List.mem_of_getElem? (i := 628) rfl) (memc (List.mem_of_getElem? (i := 629) rfl) (memc (List.mem_of_getElem? (i := 630) rfl) (memc (List.mem_of_getElem? (i := 402) rfl) (memc (List.mem_of_getElem? (i := 403) rfl) (memc (List.mem_of_getElem? (i := 404) rfl) (memc (List.mem_of_getElem? (i := 405) rfl) (memc (List.mem_of_getElem? (i := 631) rfl) (memc (List.mem_of_getElem? (i := 632) rfl) (memc (List.mem_of_getElem? (i := 633) rfl) memn))))))))))))))))))))
set_option maxRecDepth 20000 in
theorem q_wsX80 : ∀ w ∈ wsX80, w ∈ lw_tbl := m_ps [273, 275, 277, 279, 281, 283] (by decide +kernel)
set_option maxRecDepth 20000 in
theorem q_wsX30 : ∀ w ∈ wsX30, w ∈ lw_tbl := m_ps [219, 221, 223, 225, 227, 229, 231, 233] (by decide +kernel)
set_option maxRecDepth 20000 in
theorem q_wsX00 : ∀ w ∈ wsX00, w ∈ lw_tbl := m_ps [248, 250] (by decide +kernel)
set_option maxRecDepth 20000 in
theorem q_wsX50 : ∀ w ∈ wsX50, w ∈ lw_tbl := m_ps [262, 264] (by decide +kernel)
set_option maxRecDepth 20000 in
theorem q_wsX60 : ∀ w ∈ wsX60, w ∈ lw_tbl := m_ps [114, 116, 118, 100, 102, 104, 106, 108, 110, 112] (by decide +kernel)
set_option maxRecDepth 20000 in
theorem q_wsX20 : ∀ w ∈ wsX20, w ∈ lw_tbl := m_ps [141, 142, 143, 135, 137, 139] (by decide +kernel)
set_option maxRecDepth 20000 in
theorem q_wsX10 : ∀ w ∈ wsX10, w ∈ lw_tbl := m_ps [167, 168, 169, 159, 161, 163, 165] (by decide +kernel)
set_option maxRecDepth 20000 in
theorem q_wsX40 : ∀ w ∈ wsX40, w ∈ lw_tbl := m_ps [189, 191, 193, 195, 197, 199, 201] (by decide +kernel)
theorem wsL_law_in : ∀ w ∈ wsL_law, w ∈ lw_tbl := (m_app (m_app (m_app (m_app (m_app (m_app (m_app (m_app (m_app (m_app q_wsL_law_r1 (m_app q_wsL_law_r2 (m_app q_wsL_law_r3 (m_app q_wsL_law_r4 (m_app q_wsL_law_r5 (m_app q_wsL_law_r6 (m_app q_wsL_law_r7 (m_app q_wsL_law_r8 (m_app q_wsL_law_r9 (m_app q_wsL_law_r10 (m_app q_wsL_law_r11 (m_app q_wsL_law_r12 (m_app q_wsL_law_r13 (m_app q_wsL_law_r14 (m_app q_wsL_law_r15 (m_app q_wsL_law_r16 (m_app q_wsL_law_r17 (m_app q_wsL_law_r18 (m_app q_wsL_law_r19 (m_app q_wsL_law_r20 (m_app q_wsL_law_r21 (m_app q_wsL_law_r22 q_wsL_law_r23)))))))))))))))))))))) q_wsX80) q_wsX30) q_wsX00) q_wsX50) q_wsX60) q_wsX20) q_wsX10) q_wsX40) (fun _ h => absurd h List.not_mem_nil))
theorem inlX0 : ∀ w ∈ wsX00, w ∈ wsL_law := fun _ h => List.mem_append_left _ (List.mem_append_left _ (List.mem_append_left _ (List.mem_append_left _ (List.mem_append_left _ (List.mem_append_left _ (List.mem_append_right _ h))))))
theorem inX0 : ∀ w ∈ wsX00, w ∈ lw_tbl := fun w h => wsL_law_in w (inlX0 w h)
theorem inlX1 : ∀ w ∈ wsX10, w ∈ wsL_law := fun _ h => List.mem_append_left _ (List.mem_append_left _ (List.mem_append_right _ h))
theorem inX1 : ∀ w ∈ wsX10, w ∈ lw_tbl := fun w h => wsL_law_in w (inlX1 w h)
theorem inlX2 : ∀ w ∈ wsX20, w ∈ wsL_law := fun _ h => List.mem_append_left _ (List.mem_append_left _ (List.mem_append_left _ (List.mem_append_right _ h)))
theorem inX2 : ∀ w ∈ wsX20, w ∈ lw_tbl := fun w h => wsL_law_in w (inlX2 w h)
theorem inlX3 : ∀ w ∈ wsX30, w ∈ wsL_law := fun _ h => List.mem_append_left _ (List.mem_append_left _ (List.mem_append_left _ (List.mem_append_left _ (List.mem_append_left _ (List.mem_append_left _ (List.mem_append_left _ (List.mem_append_right _ h)))))))
theorem inX3 : ∀ w ∈ wsX30, w ∈ lw_tbl := fun w h => wsL_law_in w (inlX3 w h)
theorem inlX4 : ∀ w ∈ wsX40, w ∈ wsL_law := fun _ h => List.mem_append_left _ (List.mem_append_right _ h)
theorem inX4 : ∀ w ∈ wsX40, w ∈ lw_tbl := fun w h => wsL_law_in w (inlX4 w h)
theorem inlX5 : ∀ w ∈ wsX50, w ∈ wsL_law := fun _ h => List.mem_append_left _ (List.mem_append_left _ (List.mem_append_left _ (List.mem_append_left _ (List.mem_append_left _ (List.mem_append_right _ h)))))
theorem inX5 : ∀ w ∈ wsX50, w ∈ lw_tbl := fun w h => wsL_law_in w (inlX5 w h)
theorem inlX6 : ∀ w ∈ wsX60, w ∈ wsL_law := fun _ h => List.mem_append_left _ (List.mem_append_left _ (List.mem_append_left _ (List.mem_append_left _ (List.mem_append_right _ h))))
theorem inX6 : ∀ w ∈ wsX60, w ∈ lw_tbl := fun w h => wsL_law_in w (inlX6 w h)
theorem inlX8 : ∀ w ∈ wsX80, w ∈ wsL_law := fun _ h => List.mem_append_left _ (List.mem_append_left _ (List.mem_append_left _ (List.mem_append_left _ (List.mem_append_left _ (List.mem_append_left _ (List.mem_append_left _ (List.mem_append_left _ (List.mem_append_right _ h))))))))
theorem inX8 : ∀ w ∈ wsX80, w ∈ lw_tbl := fun w h => wsL_law_in w (inlX8 w h)
