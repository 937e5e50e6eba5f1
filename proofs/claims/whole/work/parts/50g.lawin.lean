/-! the tables have all of them -/
theorem wsL_law_in0 : ∀ w ∈ wsL_law0, w ∈ lw_tbl := by
  intro w h
  rcases List.mem_append.mp h with h | h
  · exact lwin_1 w h
  rcases List.mem_append.mp h with h | h
  · exact lwin_2 w h
  rcases List.mem_append.mp h with h | h
  · exact lwin_3 w h
  rcases List.mem_append.mp h with h | h
  · exact lwin_4 w h
  rcases List.mem_append.mp h with h | h
  · exact lwin_5 w h
  rcases List.mem_append.mp h with h | h
  · exact lwin_6 w h
  rcases List.mem_append.mp h with h | h
  · exact lwin_7 w h
  rcases List.mem_append.mp h with h | h
  · exact lwin_8 w h
  rcases List.mem_append.mp h with h | h
  · exact lwin_9 w h
  rcases List.mem_append.mp h with h | h
  · exact lwin_10 w h
  rcases List.mem_append.mp h with h | h
  · exact lwin_11 w h
  rcases List.mem_append.mp h with h | h
  · exact lwin_12 w h
  rcases List.mem_append.mp h with h | h
  · exact lwin_13 w h
  rcases List.mem_append.mp h with h | h
  · exact lwin_14 w h
  rcases List.mem_append.mp h with h | h
  · exact lwin_15 w h
  rcases List.mem_append.mp h with h | h
  · exact lwin_16 w h
  rcases List.mem_append.mp h with h | h
  · exact lwin_17 w h
  rcases List.mem_append.mp h with h | h
  · exact lwin_18 w h
  rcases List.mem_append.mp h with h | h
  · exact lwin_19 w h
  rcases List.mem_append.mp h with h | h
  · exact lwin_20 w h
  rcases List.mem_append.mp h with h | h
  · exact lwin_21 w h
  rcases List.mem_append.mp h with h | h
  · exact lwin_22 w h
  rcases List.mem_append.mp h with h | h
  · exact lwin_23 w h
  rcases List.mem_append.mp h with h | h
  · exact lwin_24 w h
  rcases List.mem_append.mp h with h | h
  · exact lwin_25 w h
  rcases List.mem_append.mp h with h | h
  · exact lwin_26 w h
  rcases List.mem_append.mp h with h | h
  · exact lwin_27 w h
  rcases List.mem_append.mp h with h | h
  · exact lwin_28 w h
  rcases List.mem_append.mp h with h | h
  · exact lwin_29 w h
  rcases List.mem_append.mp h with h | h
  · exact lwin_30 w h
  rcases List.mem_append.mp h with h | h
  · exact lwin_31 w h
  rcases List.mem_append.mp h with h | h
  · exact lwin_32 w h
  rcases List.mem_append.mp h with h | h
  · exact lwin_33 w h
  rcases List.mem_append.mp h with h | h
  · exact lwin_34 w h
  rcases List.mem_append.mp h with h | h
  · exact lwin_35 w h
  rcases List.mem_append.mp h with h | h
  · exact lwin_36 w h
  rcases List.mem_append.mp h with h | h
  · exact lwin_37 w h
  rcases List.mem_append.mp h with h | h
  · exact lwin_38 w h
  rcases List.mem_append.mp h with h | h
  · exact lwin_39 w h
  exact lwin_40 w h
theorem wsL_law_x0 : ∀ w ∈ (vx_atS RX4 47 "java/lang/IllegalStateException" ["java/lang/RuntimeException", "java/lang/Exception"]).filter goodWord, w ∈ lw_tbl := by decide +kernel
theorem wsL_law_x1 : ∀ w ∈ (vx_atS RX4 149 "java/lang/IllegalArgumentException" ["java/lang/RuntimeException", "java/lang/Exception"]).filter goodWord, w ∈ lw_tbl := by decide +kernel
theorem wsL_law_x2 : ∀ w ∈ (vx_atS RX4 292 "java/lang/IndexOutOfBoundsException" ["java/lang/RuntimeException", "java/lang/Exception"]).filter goodWord, w ∈ lw_tbl := by decide +kernel
theorem wsL_law_in : ∀ w ∈ wsL_law, w ∈ lw_tbl := fun w h => (List.mem_append.mp h).elim (fun h => (List.mem_append.mp h).elim (fun h => (List.mem_append.mp h).elim (fun h => wsL_law_in0 w h) (fun h => wsL_law_x0 w h)) (fun h => wsL_law_x1 w h)) (fun h => wsL_law_x2 w h)
theorem inX0 : ∀ w ∈ wsX00, w ∈ lw_tbl := by decide +kernel
theorem inlX1 : ∀ w ∈ wsX10, w ∈ wsL_law := fun _ h => List.mem_append_left _ (List.mem_append_left _ (List.mem_append_left _ (List.mem_append_left _ (List.mem_append_right _ h))))
theorem inX1 : ∀ w ∈ wsX10, w ∈ lw_tbl := fun w h => wsL_law_in w (inlX1 w h)
theorem inlX2 : ∀ w ∈ wsX20, w ∈ wsL_law := fun _ h => List.mem_append_left _ (List.mem_append_left _ (List.mem_append_left _ (List.mem_append_left _ (List.mem_append_left _ (List.mem_append_right _ h)))))
theorem inX2 : ∀ w ∈ wsX20, w ∈ lw_tbl := fun w h => wsL_law_in w (inlX2 w h)
theorem inlX3 : ∀ w ∈ wsX30, w ∈ wsL_law := fun _ h => List.mem_append_left _ (List.mem_append_left _ (List.mem_append_left _ (List.mem_append_left _ (List.mem_append_left _ (List.mem_append_left _ (List.mem_append_right _ h))))))
theorem inX3 : ∀ w ∈ wsX30, w ∈ lw_tbl := fun w h => wsL_law_in w (inlX3 w h)
theorem inlX4 : ∀ w ∈ wsX40, w ∈ wsL_law := fun _ h => List.mem_append_left _ (List.mem_append_left _ (List.mem_append_left _ (List.mem_append_left _ (List.mem_append_left _ (List.mem_append_left _ (List.mem_append_left _ (List.mem_append_left _ (List.mem_append_right _ h))))))))
theorem inX4 : ∀ w ∈ wsX40, w ∈ lw_tbl := fun w h => wsL_law_in w (inlX4 w h)
theorem inlX5 : ∀ w ∈ wsX50, w ∈ wsL_law := fun _ h => List.mem_append_left _ (List.mem_append_left _ (List.mem_append_left _ (List.mem_append_left _ (List.mem_append_left _ (List.mem_append_left _ (List.mem_append_left _ (List.mem_append_right _ h)))))))
theorem inX5 : ∀ w ∈ wsX50, w ∈ lw_tbl := fun w h => wsL_law_in w (inlX5 w h)
theorem inJx8e188 : ∀ w ∈ wsJx8e1880, w ∈ lw_tbl := by decide +kernel
theorem inJ6 : ∀ w ∈ wsJ60, w ∈ lw_tbl := by decide +kernel
theorem inJ9 : ∀ w ∈ wsJ90, w ∈ lw_tbl := by decide +kernel
theorem inJ0 : ∀ w ∈ wsJ00, w ∈ lw_tbl := by decide +kernel
theorem inJ10 : ∀ w ∈ wsJ100, w ∈ lw_tbl := by decide +kernel
