/-! the words of the law's body, list by list -/
set_option maxRecDepth 20000 in
theorem lwin_20 : ∀ w ∈ wsL_law0_r20, w ∈ lw_tbl := fun w h => (goodIn_p wsL_law0_r20 [500, 155, 293, 297, 300, 303] (by decide +kernel) (by decide +kernel) w h).1
set_option maxRecDepth 20000 in
theorem lwin_21 : ∀ w ∈ wsL_law0_r21, w ∈ lw_tbl := fun w h => (goodIn_p wsL_law0_r21 [306, 251, 254, 261, 313] (by decide +kernel) (by decide +kernel) w h).1
