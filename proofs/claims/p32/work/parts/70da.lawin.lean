/-! the words of the law's body, list by list -/
set_option maxRecDepth 20000 in
theorem lwin_18 : ∀ w ∈ wsL_law0_r18, w ∈ lw_tbl := fun w h => (goodIn_p wsL_law0_r18 [662, 666, 671, 464, 469, 472] (by decide +kernel) (by decide +kernel) w h).1
set_option maxRecDepth 20000 in
theorem lwin_19 : ∀ w ∈ wsL_law0_r19, w ∈ lw_tbl := fun w h => (goodIn_p wsL_law0_r19 [476, 479, 482, 486, 491, 494, 497] (by decide +kernel) (by decide +kernel) w h).1
