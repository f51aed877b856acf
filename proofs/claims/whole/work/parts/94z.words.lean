set_option maxRecDepth 20000 in
theorem wsL_law_in0 : mjIn lw_tbl wsL_law0 := mj_app (mj_app (mj_app (mj_app (mj_app (mj_app (mj_app (mj_app (mj_app (mj_app wsL_law0_r1_in (mj_app wsL_law0_r2_in (mj_app wsL_law0_r3_in (mj_app wsL_law0_r4_in (mj_app wsL_law0_r5_in (mj_app wsL_law0_r6_in (mj_app wsL_law0_r7_in (mj_app wsL_law0_r8_in (mj_app wsL_law0_r9_in (mj_app wsL_law0_r10_in (mj_app wsL_law0_r11_in (mj_app wsL_law0_r12_in (mj_app wsL_law0_r13_in (mj_app wsL_law0_r14_in (mj_app wsL_law0_r15_in (mj_app wsL_law0_r16_in (mj_app wsL_law0_r17_in (mj_app wsL_law0_r18_in (mj_app wsL_law0_r19_in (mj_app wsL_law0_r20_in (mj_app wsL_law0_r21_in (mj_app wsL_law0_r22_in (mj_app wsL_law0_r23_in (mj_app wsL_law0_r24_in (mj_app wsL_law0_r25_in (mj_app wsL_law0_r26_in (mj_app wsL_law0_r27_in (mj_app wsL_law0_r28_in (mj_app wsL_law0_r29_in (mj_app wsL_law0_r30_in (mj_app wsL_law0_r31_in (mj_app wsL_law0_r32_in (mj_app wsL_law0_r33_in (mj_app wsL_law0_r34_in (mj_app wsL_law0_r35_in (mj_app wsL_law0_r36_in (mj_app wsL_law0_r37_in (mj_app wsL_law0_r38_in (mj_app wsL_law0_r39_in (mj_app wsL_law0_r40_in (mj_app wsL_law0_r41_in (mj_app wsL_law0_r42_in (mj_app wsL_law0_r43_in (mj_app wsL_law0_r44_in (mj_app wsL_law0_r45_in (mj_app wsL_law0_r46_in (mj_app wsL_law0_r47_in (mj_app wsL_law0_r48_in (mj_app wsL_law0_r49_in wsL_law0_r50_in))))))))))))))))))))))))))))))))))))))))))))))))) wsX60_in) wsX70_in) wsX20_in) wsX00_in) wsX30_in) wsX50_in) wsX40_in) wsX10_in) mj_nil
theorem wsL_law_x0 : ∀ w ∈ (vx_at0 RX6 325 "java/util/NoSuchElementException" ["java/lang/RuntimeException", "java/lang/Exception"]).filter goodWord, w ∈ lw_tbl := by decide +kernel
theorem wsL_law_in : ∀ w ∈ wsL_law, w ∈ lw_tbl := fun w h => (List.mem_append.mp h).elim (fun h => wsL_law_in0 w h) (fun h => wsL_law_x0 w h)
theorem inlX0 : ∀ w ∈ wsX00, w ∈ wsL_law := fun _ h => List.mem_append_left _ (List.mem_append_left _ (List.mem_append_left _ (List.mem_append_left _ (List.mem_append_left _ (List.mem_append_left _ (List.mem_append_right _ h))))))
theorem inX0 : ∀ w ∈ wsX00, w ∈ lw_tbl := fun w h => wsL_law_in w (inlX0 w h)
theorem inlX1 : ∀ w ∈ wsX10, w ∈ wsL_law := fun _ h => List.mem_append_left _ (List.mem_append_left _ (List.mem_append_right _ h))
theorem inX1 : ∀ w ∈ wsX10, w ∈ lw_tbl := fun w h => wsL_law_in w (inlX1 w h)
theorem inlX2 : ∀ w ∈ wsX20, w ∈ wsL_law := fun _ h => List.mem_append_left _ (List.mem_append_left _ (List.mem_append_left _ (List.mem_append_left _ (List.mem_append_left _ (List.mem_append_left _ (List.mem_append_left _ (List.mem_append_right _ h)))))))
theorem inX2 : ∀ w ∈ wsX20, w ∈ lw_tbl := fun w h => wsL_law_in w (inlX2 w h)
theorem inlX3 : ∀ w ∈ wsX30, w ∈ wsL_law := fun _ h => List.mem_append_left _ (List.mem_append_left _ (List.mem_append_left _ (List.mem_append_left _ (List.mem_append_left _ (List.mem_append_right _ h)))))
theorem inX3 : ∀ w ∈ wsX30, w ∈ lw_tbl := fun w h => wsL_law_in w (inlX3 w h)
theorem inlX4 : ∀ w ∈ wsX40, w ∈ wsL_law := fun _ h => List.mem_append_left _ (List.mem_append_left _ (List.mem_append_left _ (List.mem_append_right _ h)))
theorem inX4 : ∀ w ∈ wsX40, w ∈ lw_tbl := fun w h => wsL_law_in w (inlX4 w h)
theorem inlX5 : ∀ w ∈ wsX50, w ∈ wsL_law := fun _ h => List.mem_append_left _ (List.mem_append_left _ (List.mem_append_left _ (List.mem_append_left _ (List.mem_append_right _ h))))
theorem inX5 : ∀ w ∈ wsX50, w ∈ lw_tbl := fun w h => wsL_law_in w (inlX5 w h)
theorem inlX6 : ∀ w ∈ wsX60, w ∈ wsL_law := fun _ h => List.mem_append_left _ (List.mem_append_left _ (List.mem_append_left _ (List.mem_append_left _ (List.mem_append_left _ (List.mem_append_left _ (List.mem_append_left _ (List.mem_append_left _ (List.mem_append_left _ (List.mem_append_right _ h)))))))))
theorem inX6 : ∀ w ∈ wsX60, w ∈ lw_tbl := fun w h => wsL_law_in w (inlX6 w h)
theorem inlX7 : ∀ w ∈ wsX70, w ∈ wsL_law := fun _ h => List.mem_append_left _ (List.mem_append_left _ (List.mem_append_left _ (List.mem_append_left _ (List.mem_append_left _ (List.mem_append_left _ (List.mem_append_left _ (List.mem_append_left _ (List.mem_append_right _ h))))))))
theorem inX7 : ∀ w ∈ wsX70, w ∈ lw_tbl := fun w h => wsL_law_in w (inlX7 w h)
theorem inJ13 : ∀ w ∈ wsJ130, w ∈ lw_tbl := by decide +kernel
theorem inJ9 : ∀ w ∈ wsJ90, w ∈ lw_tbl := by decide +kernel
