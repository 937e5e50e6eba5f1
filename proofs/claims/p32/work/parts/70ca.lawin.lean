/-! the words of the law's body, list by list -/
set_option maxRecDepth 20000 in
theorem lwin_8 : ∀ w ∈ wsL_law0_r8, w ∈ lw_tbl := fun w h => (goodIn_p wsL_law0_r8 [417, 420, 424, 427, 432, 244] (by decide +kernel) (by decide +kernel) w h).1
set_option maxRecDepth 20000 in
theorem lwin_9 : ∀ w ∈ wsL_law0_r9, w ∈ lw_tbl := fun w h => (goodIn_p wsL_law0_r9 [310, 438, 443, 447, 450, 454] (by decide +kernel) (by decide +kernel) w h).1
