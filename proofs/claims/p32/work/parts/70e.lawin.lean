/-! the tables have all of them -/
theorem lwX_1 : ∀ w ∈ wsX10, w ∈ lw_tbl := by decide +kernel
theorem lwX_2 : ∀ w ∈ wsX20, w ∈ lw_tbl := by decide +kernel
theorem lwX_3 : ∀ w ∈ wsX30, w ∈ lw_tbl := by decide +kernel
theorem lwX_4 : ∀ w ∈ wsX40, w ∈ lw_tbl := by decide +kernel
theorem wsL_law_in0 : ∀ w ∈ wsL_law0, w ∈ lw_tbl := by
  intro w h
  refine (List.mem_append.mp h).elim (fun h => ?_) (fun h => by cases h)
  refine (List.mem_append.mp h).elim (fun h => ?_) (fun h => lwX_1 w h)
  refine (List.mem_append.mp h).elim (fun h => ?_) (fun h => lwX_2 w h)
  refine (List.mem_append.mp h).elim (fun h => ?_) (fun h => lwX_3 w h)
  refine (List.mem_append.mp h).elim (fun h => ?_) (fun h => lwX_4 w h)
  refine (List.mem_append.mp h).elim (fun h => lwin_1 w h) (fun h => ?_)
  refine (List.mem_append.mp h).elim (fun h => lwin_2 w h) (fun h => ?_)
  refine (List.mem_append.mp h).elim (fun h => lwin_3 w h) (fun h => ?_)
  refine (List.mem_append.mp h).elim (fun h => lwin_4 w h) (fun h => ?_)
  refine (List.mem_append.mp h).elim (fun h => lwin_5 w h) (fun h => ?_)
  refine (List.mem_append.mp h).elim (fun h => lwin_6 w h) (fun h => ?_)
  refine (List.mem_append.mp h).elim (fun h => lwin_7 w h) (fun h => ?_)
  refine (List.mem_append.mp h).elim (fun h => lwin_8 w h) (fun h => ?_)
  refine (List.mem_append.mp h).elim (fun h => lwin_9 w h) (fun h => ?_)
  refine (List.mem_append.mp h).elim (fun h => lwin_10 w h) (fun h => ?_)
  refine (List.mem_append.mp h).elim (fun h => lwin_11 w h) (fun h => ?_)
  refine (List.mem_append.mp h).elim (fun h => lwin_12 w h) (fun h => ?_)
  refine (List.mem_append.mp h).elim (fun h => lwin_13 w h) (fun h => ?_)
  refine (List.mem_append.mp h).elim (fun h => lwin_14 w h) (fun h => ?_)
  refine (List.mem_append.mp h).elim (fun h => lwin_15 w h) (fun h => ?_)
  refine (List.mem_append.mp h).elim (fun h => lwin_16 w h) (fun h => ?_)
  refine (List.mem_append.mp h).elim (fun h => lwin_17 w h) (fun h => ?_)
  refine (List.mem_append.mp h).elim (fun h => lwin_18 w h) (fun h => ?_)
  refine (List.mem_append.mp h).elim (fun h => lwin_19 w h) (fun h => ?_)
  refine (List.mem_append.mp h).elim (fun h => lwin_20 w h) (fun h => ?_)
  exact lwin_21 w h
theorem wsL_law_x0 : ∀ w ∈ (vx_atS RX4 149 "java/lang/IllegalArgumentException" ["java/lang/RuntimeException", "java/lang/Exception"]).filter goodWord, w ∈ lw_tbl := by decide +kernel
theorem wsL_law_x1 : ∀ w ∈ (vx_atS RX4 292 "java/lang/IndexOutOfBoundsException" ["java/lang/RuntimeException", "java/lang/Exception"]).filter goodWord, w ∈ lw_tbl := by decide +kernel
theorem wsL_law_x2 : ∀ w ∈ (vx_atS RX4 47 "java/lang/IllegalStateException" ["java/lang/RuntimeException", "java/lang/Exception"]).filter goodWord, w ∈ lw_tbl := by decide +kernel
theorem wsL_law_in : ∀ w ∈ wsL_law, w ∈ lw_tbl := fun w h => (List.mem_append.mp h).elim (fun h => (List.mem_append.mp h).elim (fun h => (List.mem_append.mp h).elim (fun h => wsL_law_in0 w h) (fun h => wsL_law_x0 w h)) (fun h => wsL_law_x1 w h)) (fun h => wsL_law_x2 w h)
theorem inX0 : ∀ w ∈ wsX00, w ∈ lw_tbl := by decide +kernel
theorem inlX1 : ∀ w ∈ wsX10, w ∈ wsL_law := fun _ h => List.mem_append_left _ (List.mem_append_left _ (List.mem_append_left _ (List.mem_append_left _ (List.mem_append_right _ h))))
theorem inX1 : ∀ w ∈ wsX10, w ∈ lw_tbl := fun w h => wsL_law_in w (inlX1 w h)
theorem inlX2 : ∀ w ∈ wsX20, w ∈ wsL_law := fun _ h => List.mem_append_left _ (List.mem_append_left _ (List.mem_append_left _ (List.mem_append_left _ (List.mem_append_left _ (List.mem_append_right _ h)))))
theorem inX2 : ∀ w ∈ wsX20, w ∈ lw_tbl := fun w h => wsL_law_in w (inlX2 w h)
theorem inlX3 : ∀ w ∈ wsX30, w ∈ wsL_law := fun _ h => List.mem_append_left _ (List.mem_append_left _ (List.mem_append_left _ (List.mem_append_left _ (List.mem_append_left _ (List.mem_append_left _ (List.mem_append_right _ h))))))
theorem inX3 : ∀ w ∈ wsX30, w ∈ lw_tbl := fun w h => wsL_law_in w (inlX3 w h)
theorem inlX4 : ∀ w ∈ wsX40, w ∈ wsL_law := fun _ h => List.mem_append_left _ (List.mem_append_left _ (List.mem_append_left _ (List.mem_append_left _ (List.mem_append_left _ (List.mem_append_left _ (List.mem_append_left _ (List.mem_append_right _ h)))))))
theorem inX4 : ∀ w ∈ wsX40, w ∈ lw_tbl := fun w h => wsL_law_in w (inlX4 w h)
theorem inX5 : ∀ w ∈ wsX50, w ∈ lw_tbl := by decide +kernel
theorem inJx8e188 : ∀ w ∈ wsJx8e1880, w ∈ lw_tbl := by decide +kernel
theorem inJ6 : ∀ w ∈ wsJ60, w ∈ lw_tbl := by decide +kernel
theorem inJ9 : ∀ w ∈ wsJ90, w ∈ lw_tbl := by decide +kernel
theorem inJ0 : ∀ w ∈ wsJ00, w ∈ lw_tbl := by decide +kernel
theorem inJ10 : ∀ w ∈ wsJ100, w ∈ lw_tbl := by decide +kernel
