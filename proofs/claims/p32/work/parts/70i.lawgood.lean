/-! every method's words are among the law's -/
set_option maxRecDepth 20000 in
theorem ggL_law_L_areRanked : GoodIn wsL_law wsL_areRanked := goodIn_ca (goodIn_r _ [421, 422, 423, 424, 425, 426, 2, 427, 15, 221, 222, 223, 60, 61, 428, 429, 430, 431, 432, 384, 433, 434, 435, 436, 437, 438, 439, 440, 441, 386, 442, 87, 88, 14, 89, 90, 91, 92, 93, 94, 95, 96, 97, 29, 30, 443, 444, 54, 445, 133, 134, 135, 150, 151, 152, 98, 99, 100, 446, 447, 448, 449, 450, 451, 452, 453, 454, 455, 456, 457, 458, 459, 291, 292, 293, 32, 460, 497, 498, 499, 500, 501, 502, 503, 504, 505, 506, 507, 508, 509, 510, 511, 512, 513] (by decide +kernel) (by decide +kernel)) (goodIn_sub (fun _ h => List.mem_append_left _ (List.mem_append_left _ (List.mem_append_right _ h))) (by decide +kernel))
set_option maxRecDepth 20000 in
theorem gL_law_L_areRanked : GoodIn wsL_law (va_wsS RL 160 yL_areRanked wsL_areRanked) := goodIn_app (goodIn_of _ (by decide +kernel)) ggL_law_L_areRanked
set_option maxRecDepth 20000 in
theorem ggL_law_X4_init : GoodIn wsL_law wsX4_init := goodIn_r _ [8, 9, 10, 11, 12, 13, 14, 15, 16, 17, 18, 19, 20, 21, 22, 23, 24, 25, 26, 27, 3, 28, 29, 30, 31, 32, 33, 34, 35, 36, 37, 38, 39, 40, 41, 42, 43, 44, 45, 46, 47, 48, 49, 50, 51, 501, 502, 503, 504, 505, 506, 507, 508, 509, 510, 511, 512, 513, 497, 498, 499, 500, 514, 515, 516, 517, 518, 519, 520, 521] (by decide +kernel) (by decide +kernel)
set_option maxRecDepth 20000 in
theorem gL_law_X4_init : GoodIn wsL_law (wsX4_init) := ggL_law_X4_init
set_option maxRecDepth 20000 in
theorem ggL_law_L_cell : GoodIn wsL_law wsL_cell := goodIn_r _ [226, 227] (by decide +kernel) (by decide +kernel)
set_option maxRecDepth 20000 in
theorem gL_law_L_cell : GoodIn wsL_law (va_wsS RL 154 yL_cell wsL_cell) := goodIn_app (goodIn_of _ (by decide +kernel)) ggL_law_L_cell
set_option maxRecDepth 20000 in
theorem ggL_law_L_low : GoodIn wsL_law wsL_low := goodIn_r _ [230, 231] (by decide +kernel) (by decide +kernel)
set_option maxRecDepth 20000 in
theorem gL_law_L_low : GoodIn wsL_law (va_wsS RL 88 yL_low wsL_low) := goodIn_app (goodIn_of _ (by decide +kernel)) ggL_law_L_low
set_option maxRecDepth 20000 in
theorem ggL_law_L_free : GoodIn wsL_law wsL_free := goodIn_r _ [152, 98, 99, 54, 100] (by decide +kernel) (by decide +kernel)
set_option maxRecDepth 20000 in
theorem gL_law_L_free : GoodIn wsL_law (va_wsS RL 59 yL_free wsL_free) := goodIn_app (goodIn_of _ (by decide +kernel)) ggL_law_L_free
