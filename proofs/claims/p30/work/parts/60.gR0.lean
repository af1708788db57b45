/-! pieces of the words of L_areReceivers -/
theorem iR_wsL_areReceivers_r1 : ∀ w ∈ wsL_areReceivers_r1, w ∈ wsL_areReceivers := fun _ h => (List.mem_cons_of_mem _ (List.mem_append_left _ (List.mem_append_left _ (List.mem_append_left _ (List.mem_append_left _ (List.mem_append_left _ (List.mem_append_left _ (List.mem_append_left _ (List.mem_append_left _ (List.mem_append_left _ h))))))))))
theorem iR_wsL_areReceivers_r2 : ∀ w ∈ wsL_areReceivers_r2, w ∈ wsL_areReceivers := fun _ h => (List.mem_cons_of_mem _ (List.mem_append_left _ (List.mem_append_left _ (List.mem_append_left _ (List.mem_append_left _ (List.mem_append_left _ (List.mem_append_left _ (List.mem_append_left _ (List.mem_append_left _ (List.mem_append_right _ (List.mem_append_left _ h)))))))))))
theorem iR_wsL_areReceivers_r3 : ∀ w ∈ wsL_areReceivers_r3, w ∈ wsL_areReceivers := fun _ h => (List.mem_cons_of_mem _ (List.mem_append_left _ (List.mem_append_left _ (List.mem_append_left _ (List.mem_append_left _ (List.mem_append_left _ (List.mem_append_left _ (List.mem_append_left _ (List.mem_append_left _ (List.mem_append_right _ (List.mem_append_right _ (List.mem_append_left _ h))))))))))))
theorem iR_wsL_areReceivers_r4 : ∀ w ∈ wsL_areReceivers_r4, w ∈ wsL_areReceivers := fun _ h => (List.mem_cons_of_mem _ (List.mem_append_left _ (List.mem_append_left _ (List.mem_append_left _ (List.mem_append_left _ (List.mem_append_left _ (List.mem_append_left _ (List.mem_append_left _ (List.mem_append_left _ (List.mem_append_right _ (List.mem_append_right _ (List.mem_append_right _ h))))))))))))
theorem iR_wsX80 : ∀ w ∈ wsX80, w ∈ wsL_areReceivers := fun _ h => (List.mem_cons_of_mem _ (List.mem_append_left _ (List.mem_append_left _ (List.mem_append_left _ (List.mem_append_left _ (List.mem_append_left _ (List.mem_append_left _ (List.mem_append_left _ (List.mem_append_right _ h)))))))))
theorem iR_wsX30 : ∀ w ∈ wsX30, w ∈ wsL_areReceivers := fun _ h => (List.mem_cons_of_mem _ (List.mem_append_left _ (List.mem_append_left _ (List.mem_append_left _ (List.mem_append_left _ (List.mem_append_left _ (List.mem_append_left _ (List.mem_append_right _ h))))))))
theorem iR_wsX40 : ∀ w ∈ wsX40, w ∈ wsL_areReceivers := fun _ h => (List.mem_cons_of_mem _ (List.mem_append_left _ (List.mem_append_left _ (List.mem_append_left _ (List.mem_append_left _ (List.mem_append_left _ (List.mem_append_right _ h)))))))
theorem iR_wsX00 : ∀ w ∈ wsX00, w ∈ wsL_areReceivers := fun _ h => (List.mem_cons_of_mem _ (List.mem_append_left _ (List.mem_append_left _ (List.mem_append_left _ (List.mem_append_left _ (List.mem_append_right _ h))))))
theorem iR_wsX50 : ∀ w ∈ wsX50, w ∈ wsL_areReceivers := fun _ h => (List.mem_cons_of_mem _ (List.mem_append_left _ (List.mem_append_left _ (List.mem_append_left _ (List.mem_append_right _ h)))))
theorem iR_wsX10 : ∀ w ∈ wsX10, w ∈ wsL_areReceivers := fun _ h => (List.mem_cons_of_mem _ (List.mem_append_left _ (List.mem_append_left _ (List.mem_append_right _ h))))
theorem iR_wsX20 : ∀ w ∈ wsX20, w ∈ wsL_areReceivers := fun _ h => (List.mem_cons_of_mem _ (List.mem_append_left _ (List.mem_append_right _ h)))
theorem iR_wsX60 : ∀ w ∈ wsX60, w ∈ wsL_areReceivers := fun _ h => (List.mem_cons_of_mem _ (List.mem_append_right _ h))
set_option maxRecDepth 20000 in
theorem gR_wsX80 : GoodIn wsL_areReceivers wsX80 := goodIn_sub iR_wsX80 (by decide +kernel)
set_option maxRecDepth 20000 in
theorem gR_wsX30 : GoodIn wsL_areReceivers wsX30 := goodIn_sub iR_wsX30 (by decide +kernel)
set_option maxRecDepth 20000 in
theorem gR_wsX40 : GoodIn wsL_areReceivers wsX40 := goodIn_sub iR_wsX40 (by decide +kernel)
set_option maxRecDepth 20000 in
theorem gR_wsX00 : GoodIn wsL_areReceivers wsX00 := goodIn_sub iR_wsX00 (by decide +kernel)
set_option maxRecDepth 20000 in
theorem gR_wsX50 : GoodIn wsL_areReceivers wsX50 := goodIn_sub iR_wsX50 (by decide +kernel)
set_option maxRecDepth 20000 in
theorem gR_wsX10 : GoodIn wsL_areReceivers wsX10 := goodIn_sub iR_wsX10 (by decide +kernel)
set_option maxRecDepth 20000 in
theorem gR_wsX20 : GoodIn wsL_areReceivers wsX20 := goodIn_sub iR_wsX20 (by decide +kernel)
set_option maxRecDepth 20000 in
theorem gR_wsX60 : GoodIn wsL_areReceivers wsX60 := goodIn_sub iR_wsX60 (by decide +kernel)
