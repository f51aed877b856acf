set_option maxRecDepth 20000 in
set_option maxHeartbeats 4000000 in
theorem wsL_law_in0 : ∀ w ∈ wsL_law0, w ∈ lw_tbl := by
  unfold wsL_law0
  intro w h
  simp only [List.mem_append, List.append_nil] at h
  rcases h with (((((((((h | h | h | h | h | h | h | h | h | h | h | h | h | h | h | h | h | h | h | h | h | h | h | h | h | h | h | h | h | h | h | h | h | h | h | h | h | h | h | h | h | h | h | h | h | h | h | h | h | h) | h) | h) | h) | h) | h) | h) | h) | h)
  · exact wsL_law0_r1_in w h
  · exact wsL_law0_r2_in w h
  · exact wsL_law0_r3_in w h
  · exact wsL_law0_r4_in w h
  · exact wsL_law0_r5_in w h
  · exact wsL_law0_r6_in w h
  · exact wsL_law0_r7_in w h
  · exact wsL_law0_r8_in w h
  · exact wsL_law0_r9_in w h
  · exact wsL_law0_r10_in w h
  · exact wsL_law0_r11_in w h
  · exact wsL_law0_r12_in w h
  · exact wsL_law0_r13_in w h
  · exact wsL_law0_r14_in w h
  · exact wsL_law0_r15_in w h
  · exact wsL_law0_r16_in w h
  · exact wsL_law0_r17_in w h
  · exact wsL_law0_r18_in w h
  · exact wsL_law0_r19_in w h
  · exact wsL_law0_r20_in w h
  · exact wsL_law0_r21_in w h
  · exact wsL_law0_r22_in w h
  · exact wsL_law0_r23_in w h
  · exact wsL_law0_r24_in w h
  · exact wsL_law0_r25_in w h
  · exact wsL_law0_r26_in w h
  · exact wsL_law0_r27_in w h
  · exact wsL_law0_r28_in w h
  · exact wsL_law0_r29_in w h
  · exact wsL_law0_r30_in w h
  · exact wsL_law0_r31_in w h
  · exact wsL_law0_r32_in w h
  · exact wsL_law0_r33_in w h
  · exact wsL_law0_r34_in w h
  · exact wsL_law0_r35_in w h
  · exact wsL_law0_r36_in w h
  · exact wsL_law0_r37_in w h
  · exact wsL_law0_r38_in w h
  · exact wsL_law0_r39_in w h
  · exact wsL_law0_r40_in w h
  · exact wsL_law0_r41_in w h
  · exact wsL_law0_r42_in w h
  · exact wsL_law0_r43_in w h
  · exact wsL_law0_r44_in w h
  · exact wsL_law0_r45_in w h
  · exact wsL_law0_r46_in w h
  · exact wsL_law0_r47_in w h
  · exact wsL_law0_r48_in w h
  · exact wsL_law0_r49_in w h
  · exact wsL_law0_r50_in w h
  · exact wsX60_in w h
  · exact wsX70_in w h
  · exact wsX20_in w h
  · exact wsX00_in w h
  · exact wsX30_in w h
  · exact wsX50_in w h
  · exact wsX40_in w h
  · exact wsX10_in w h
theorem wsL_law_x0 : ∀ w ∈ (vx_at0 RX6 325 "java/util/NoSuchElementException" ["java/lang/RuntimeException", "java/lang/Exception"]).filter goodWord, w ∈ lw_tbl := by decide +kernel
theorem wsL_law_in : ∀ w ∈ wsL_law, w ∈ lw_tbl := fun w h => (List.mem_append.mp h).elim (fun h => wsL_law_in0 w h) (fun h => wsL_law_x0 w h)
theorem inlX0 : ∀ w ∈ wsX00, w ∈ wsL_law := fun _ h => List.mem_append_left _ (List.mem_append_left _ (List.mem_append_left _ (List.mem_append_left _ (List.mem_append_left _ (List.mem_append_left _ (List.mem_append_right _ h))))))
theorem inX0 : ∀ w ∈ wsX00, w ∈ lw_tbl := fun w h => wsL_law_in w (inlX0 w h)
theorem inlX1 : ∀ w ∈ wsX10, w ∈ wsL_law := fun _ h => List.mem_append_left _ (List.mem_append_left _ (List.mem_append_right _ h))
theorem inX1 : ∀ w ∈ wsX10, w ∈ lw_tbl := fun w h => wsL_law_in w (inlX1 w h)
theorem inlX2 : ∀ w ∈ wsX20, w ∈ wsL_law := fun _ h => List.mem_append_left _ (List.mem_append_left _ (List.mem_append_left _ (List.mem_append_left _ (List.mem_append_left _ (List.mem_append_left _ (List.mem_append_left _ (List.mem_append_right _ h)))))))
theorem inX2 : ∀ w ∈ wsX20, w ∈ lw_tbl := fun w h => wsL_law_in w (inlX2 w h)
theorem inlX3 : ∀ w ∈ wsX30, w ∈ wsL_law := fun _ h => List.mem_append_left _ (List.mem_append_left _ (List.mem_append_left _ (List.mem_append_left _ (List.mem_append_left _ (List.mem_append_right _ h)))))
theorem inX3 : ∀ w ∈ wsX30, w ∈ lw_tbl := fun w h => wsL_law_in w (inlX3 w h)
theorem inlX4 : ∀ w ∈ wsX40, w ∈ wsL_law := fun _ h => List.mem_append_left _ (List.mem_append_left _ (List.mem_append_left _ (List.mem_append_right _ h)))
theorem inX4 : ∀ w ∈ wsX40, w ∈ lw_tbl := fun w h => wsL_law_in w (inlX4 w h)
theorem inlX5 : ∀ w ∈ wsX50, w ∈ wsL_law := fun _ h => List.mem_append_left _ (List.mem_append_left _ (List.mem_append_left _ (List.mem_append_left _ (List.mem_append_right _ h))))
theorem inX5 : ∀ w ∈ wsX50, w ∈ lw_tbl := fun w h => wsL_law_in w (inlX5 w h)
theorem inlX6 : ∀ w ∈ wsX60, w ∈ wsL_law := fun _ h => List.mem_append_left _ (List.mem_append_left _ (List.mem_append_left _ (List.mem_append_left _ (List.mem_append_left _ (List.mem_append_left _ (List.mem_append_left _ (List.mem_append_left _ (List.mem_append_left _ (List.mem_append_right _ h)))))))))
theorem inX6 : ∀ w ∈ wsX60, w ∈ lw_tbl := fun w h => wsL_law_in w (inlX6 w h)
theorem inlX7 : ∀ w ∈ wsX70, w ∈ wsL_law := fun _ h => List.mem_append_left _ (List.mem_append_left _ (List.mem_append_left _ (List.mem_append_left _ (List.mem_append_left _ (List.mem_append_left _ (List.mem_append_left _ (List.mem_append_left _ (List.mem_append_right _ h))))))))
theorem inX7 : ∀ w ∈ wsX70, w ∈ lw_tbl := fun w h => wsL_law_in w (inlX7 w h)
theorem inJ13 : ∀ w ∈ wsJ130, w ∈ lw_tbl := by decide +kernel
theorem inJ9 : ∀ w ∈ wsJ90, w ∈ lw_tbl := by decide +kernel
