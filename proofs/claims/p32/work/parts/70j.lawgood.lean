/-! every method's words are among the law's -/
set_option maxRecDepth 20000 in
theorem ggL_law_L_sum : GoodIn wsL_law wsL_sum := goodIn_r _ [367] (by decide +kernel) (by decide +kernel)
set_option maxRecDepth 20000 in
theorem gL_law_L_sum : GoodIn wsL_law (va_wsS RL 34 yL_sum wsL_sum) := goodIn_app (goodIn_of _ (by decide +kernel)) ggL_law_L_sum
set_option maxRecDepth 20000 in
theorem ggL_law_L_fewest : GoodIn wsL_law wsL_fewest := goodIn_r _ [361, 362, 363, 54, 364, 365, 366, 367] (by decide +kernel) (by decide +kernel)
set_option maxRecDepth 20000 in
theorem gL_law_L_fewest : GoodIn wsL_law (va_wsS RL 102 yL_fewest wsL_fewest) := goodIn_app (goodIn_of _ (by decide +kernel)) ggL_law_L_fewest
set_option maxRecDepth 20000 in
theorem ggL_law_X4_fewest : GoodIn wsL_law wsX4_fewest := goodIn_ca (goodIn_r _ [464, 15, 378, 379, 2, 380, 381, 221, 222, 223, 60, 61, 382, 383, 384, 385, 386, 387, 70, 71, 14, 72, 73, 32, 388, 389, 390, 391, 465, 185, 186, 187, 188, 189, 190, 497, 498, 499, 500, 501, 502, 503, 504, 505, 506, 507, 508, 509, 510, 511, 512, 513] (by decide +kernel) (by decide +kernel)) (goodIn_sub (fun _ h => List.mem_append_left _ (List.mem_append_left _ (List.mem_append_right _ h))) (by decide +kernel))
set_option maxRecDepth 20000 in
theorem gL_law_X4_fewest : GoodIn wsL_law (wsV RL 165 RX4 yX4_fewest wsX4_fewest) := goodIn_app (goodIn_of _ (by decide +kernel)) ggL_law_X4_fewest
set_option maxRecDepth 20000 in
theorem ggL_law_L_ones : GoodIn wsL_law wsL_ones := goodIn_r _ [364] (by decide +kernel) (by decide +kernel)
set_option maxRecDepth 20000 in
theorem gL_law_L_ones : GoodIn wsL_law (va_wsS RL 31 yL_ones wsL_ones) := goodIn_app (goodIn_of _ (by decide +kernel)) ggL_law_L_ones
set_option maxRecDepth 20000 in
theorem ggL_law_L_isOld : GoodIn wsL_law wsL_isOld := goodIn_ca (goodIn_r _ [468, 362, 363, 54, 364, 469, 470, 471, 2, 472, 15, 378, 379, 380, 381, 221, 222, 223, 60, 61, 473, 474, 384, 475, 386, 476, 477, 478, 434, 479, 480, 481, 459, 291, 292, 14, 293, 32, 191, 192, 193, 194, 73, 28, 465, 185, 186, 187, 188, 189, 190, 497, 498, 499, 500, 501, 502, 503, 504, 505, 506, 507, 508, 509, 510, 511, 512, 513] (by decide +kernel) (by decide +kernel)) (goodIn_sub (fun _ h => List.mem_append_left _ (List.mem_append_left _ (List.mem_append_right _ h))) (by decide +kernel))
set_option maxRecDepth 20000 in
theorem gL_law_L_isOld : GoodIn wsL_law (va_wsS RL 167 yL_isOld wsL_isOld) := goodIn_app (goodIn_of _ (by decide +kernel)) ggL_law_L_isOld
set_option maxRecDepth 20000 in
theorem ggL_law_X4_nearest : GoodIn wsL_law wsX4_nearest := goodIn_ca (goodIn_r _ [485, 15, 378, 379, 2, 380, 381, 221, 222, 223, 60, 61, 486, 487, 384, 488, 434, 386, 459, 291, 292, 14, 293, 32, 489, 490, 491, 492, 91, 92, 93, 493, 319, 320, 497, 498, 499, 500, 501, 502, 503, 504, 505, 506, 507, 508, 509, 510, 511, 512, 513] (by decide +kernel) (by decide +kernel)) (goodIn_sub (fun _ h => List.mem_append_left _ (List.mem_append_left _ (List.mem_append_right _ h))) (by decide +kernel))
set_option maxRecDepth 20000 in
theorem gL_law_X4_nearest : GoodIn wsL_law (wsV RL 171 RX4 yX4_nearest wsX4_nearest) := goodIn_app (goodIn_of _ (by decide +kernel)) ggL_law_X4_nearest
set_option maxRecDepth 20000 in
theorem ggL_law_L_nearest : GoodIn wsL_law wsL_nearest := goodIn_r _ [496, 362, 363, 54, 364, 365, 366, 367, 133, 134, 135] (by decide +kernel) (by decide +kernel)
set_option maxRecDepth 20000 in
theorem gL_law_L_nearest : GoodIn wsL_law (va_wsS RL 174 yL_nearest wsL_nearest) := goodIn_app (goodIn_of _ (by decide +kernel)) ggL_law_L_nearest
