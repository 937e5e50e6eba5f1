/-! every method's words are among the law's -/
set_option maxRecDepth 20000 in
theorem ggL_law_X5_meanError : GoodIn wsL_law wsX5_meanError := goodIn_r _ [947, 121, 58, 232, 233, 234, 5, 235, 194, 195, 196, 197, 240, 241, 242, 952, 953, 954, 955, 956, 957, 958, 959, 960, 961, 962, 963, 964, 965, 966, 967, 968, 969] (by decide +kernel) (by decide +kernel)
set_option maxRecDepth 20000 in
theorem gL_law_X5_meanError : GoodIn wsL_law (wsV RL 198 RX5 yX5_meanError wsX5_meanError) := goodIn_app (goodIn_of _ (by decide +kernel)) ggL_law_X5_meanError
