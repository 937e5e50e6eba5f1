/-! every method's words are among the law's -/
set_option maxRecDepth 20000 in
theorem ggL_law_X5_ranked : GoodIn wsL_law wsX5_ranked := goodIn_r _ [734, 121, 123, 124, 5, 125, 735, 736, 737, 738, 58, 739, 740, 741, 742, 194, 195, 196, 197, 232, 233, 234, 235, 240, 241, 242, 126, 127, 128, 129, 952, 953, 954, 955, 956, 957, 958, 959, 960, 961, 962, 963, 964, 965, 966, 967, 968, 969] (by decide +kernel) (by decide +kernel)
set_option maxRecDepth 20000 in
theorem gL_law_X5_ranked : GoodIn wsL_law (wsV RL 166 RX5 yX5_ranked wsX5_ranked) := goodIn_app (goodIn_of _ (by decide +kernel)) ggL_law_X5_ranked
set_option maxRecDepth 20000 in
theorem ggL_law_L_lengths : GoodIn wsL_law wsL_lengths := goodIn_ca (goodIn_r _ [745, 72, 746, 747, 748, 2, 749, 16, 716, 717, 718, 84, 85, 750, 751, 426, 752, 753, 754, 755, 756, 757, 758, 722, 428, 759, 171, 172, 15, 173, 34, 760, 948, 949, 950, 951, 970, 971, 972, 973, 974, 975, 976, 977, 978, 979, 980, 981, 982] (by decide +kernel) (by decide +kernel)) (goodIn_sub (fun _ h => List.mem_append_left _ (List.mem_append_right _ h)) (by decide +kernel))
set_option maxRecDepth 20000 in
theorem gL_law_L_lengths : GoodIn wsL_law (va_wsS RL 167 yL_lengths wsL_lengths) := goodIn_app (goodIn_of _ (by decide +kernel)) ggL_law_L_lengths
set_option maxRecDepth 20000 in
theorem ggL_law_X5_lengths : GoodIn wsL_law wsX5_lengths := goodIn_r _ [764, 121, 126, 127, 128, 5, 129, 765, 766, 767, 768, 769, 770, 771, 772, 58, 194, 195, 196, 197, 190, 191, 192, 193, 952, 953, 954, 955, 956, 957, 958, 959, 960, 961, 962, 963, 964, 965, 966, 967, 968, 969] (by decide +kernel) (by decide +kernel)
set_option maxRecDepth 20000 in
theorem gL_law_X5_lengths : GoodIn wsL_law (wsV RL 169 RX5 yX5_lengths wsX5_lengths) := goodIn_app (goodIn_of _ (by decide +kernel)) ggL_law_X5_lengths
set_option maxRecDepth 20000 in
theorem ggL_law_L_count : GoodIn wsL_law wsL_count := goodIn_ca (goodIn_r _ [775, 72, 776, 777, 778, 2, 779, 84, 85, 16, 155, 780, 781, 782, 783, 20, 604, 25, 478, 672, 342, 343, 15, 344, 90, 34, 784, 785, 786, 787, 32, 788, 789, 790, 791, 352, 218, 219, 220, 221, 222, 223, 224, 225, 226, 211, 227, 213, 214, 215, 216, 31, 948, 949, 950, 951, 970, 971, 972, 973, 974, 975, 976, 977, 978, 979, 980, 981, 982, 983, 984, 985, 986, 987, 988, 989, 990] (by decide +kernel) (by decide +kernel)) (goodIn_sub (fun _ h => List.mem_append_left _ (List.mem_append_right _ h)) (by decide +kernel))
set_option maxRecDepth 20000 in
theorem gL_law_L_count : GoodIn wsL_law (va_wsS RL 170 yL_count wsL_count) := goodIn_app (goodIn_of _ (by decide +kernel)) ggL_law_L_count
set_option maxRecDepth 20000 in
theorem ggL_law_X5_count : GoodIn wsL_law wsX5_count := goodIn_r _ [795, 121, 123, 124, 5, 125, 796, 797, 798, 799, 58, 134, 488, 800, 801, 802, 803, 455, 456, 457, 458, 459, 63, 190, 191, 192, 193, 194, 195, 196, 197, 464, 465, 466, 467, 804, 805, 806, 807, 808, 809, 810, 811, 236, 237, 238, 239, 232, 233, 234, 235, 240, 241, 242, 126, 127, 128, 129, 952, 953, 954, 955, 956, 957, 958, 959, 960, 961, 962, 963, 964, 965, 966, 967, 968, 969] (by decide +kernel) (by decide +kernel)
set_option maxRecDepth 20000 in
theorem gL_law_X5_count : GoodIn wsL_law (wsV RL 172 RX5 yX5_count wsX5_count) := goodIn_app (goodIn_of _ (by decide +kernel)) ggL_law_X5_count
set_option maxRecDepth 20000 in
theorem ggL_law_L_setting : GoodIn wsL_law wsL_setting := goodIn_ca (goodIn_r _ [814, 150, 815, 816, 817, 2, 818, 16, 307, 308, 309, 310, 160, 161, 948, 949, 950, 951, 970, 971, 972, 973, 974, 975, 976, 977, 978, 979, 980, 981, 982] (by decide +kernel) (by decide +kernel)) (goodIn_sub (fun _ h => List.mem_append_right _ h) (by decide +kernel))
set_option maxRecDepth 20000 in
theorem gL_law_L_setting : GoodIn wsL_law (va_wsS RL 173 yL_setting wsL_setting) := goodIn_app (goodIn_of _ (by decide +kernel)) ggL_law_L_setting
set_option maxRecDepth 20000 in
theorem ggL_law_X5_setting : GoodIn wsL_law wsX5_setting := goodIn_r _ [822, 121, 58, 123, 124, 5, 125, 126, 127, 128, 129, 952, 953, 954, 955, 956, 957, 958, 959, 960, 961, 962, 963, 964, 965, 966, 967, 968, 969] (by decide +kernel) (by decide +kernel)
set_option maxRecDepth 20000 in
theorem gL_law_X5_setting : GoodIn wsL_law (wsV RL 175 RX5 yX5_setting wsX5_setting) := goodIn_app (goodIn_of _ (by decide +kernel)) ggL_law_X5_setting
set_option maxRecDepth 20000 in
theorem ggL_law_L_refusal : GoodIn wsL_law wsL_refusal := goodIn_ca (goodIn_r _ [825, 150, 826, 827, 828, 2, 829, 16, 325, 326, 327, 160, 161, 156, 157, 158, 159, 162, 163, 164, 15, 165, 90, 830, 333, 334, 335, 33, 43, 336, 171, 172, 173, 34, 337, 338, 339, 340, 341, 342, 343, 344, 345, 346, 347, 348, 349, 350, 351, 352, 218, 219, 220, 221, 222, 223, 224, 225, 226, 211, 227, 213, 214, 215, 216, 31, 32, 948, 949, 950, 951, 970, 971, 972, 973, 974, 975, 976, 977, 978, 979, 980, 981, 982] (by decide +kernel) (by decide +kernel)) (goodIn_sub (fun _ h => List.mem_append_right _ h) (by decide +kernel))
set_option maxRecDepth 20000 in
theorem gL_law_L_refusal : GoodIn wsL_law (va_wsS RL 176 yL_refusal wsL_refusal) := goodIn_app (goodIn_of _ (by decide +kernel)) ggL_law_L_refusal
set_option maxRecDepth 20000 in
theorem ggL_law_X5_refusal : GoodIn wsL_law wsX5_refusal := goodIn_r _ [834, 121, 370, 371, 5, 372, 123, 124, 125, 186, 187, 188, 189, 58, 377, 378, 379, 380, 190, 191, 192, 193, 194, 195, 196, 197, 381, 382, 383, 384, 236, 237, 238, 239, 232, 233, 234, 235, 240, 241, 242, 126, 127, 128, 129, 952, 953, 954, 955, 956, 957, 958, 959, 960, 961, 962, 963, 964, 965, 966, 967, 968, 969] (by decide +kernel) (by decide +kernel)
set_option maxRecDepth 20000 in
theorem gL_law_X5_refusal : GoodIn wsL_law (wsV RL 178 RX5 yX5_refusal wsX5_refusal) := goodIn_app (goodIn_of _ (by decide +kernel)) ggL_law_X5_refusal
set_option maxRecDepth 20000 in
theorem ggL_law_L_fewest : GoodIn wsL_law wsL_fewest := goodIn_ca (goodIn_r _ [837, 72, 838, 839, 840, 2, 841, 16, 420, 421, 422, 423, 81, 82, 83, 84, 85, 424, 425, 426, 427, 428, 429, 342, 343, 15, 344, 90, 34, 430, 431, 432, 433, 842, 346, 347, 348, 349, 350, 351, 948, 949, 950, 951, 970, 971, 972, 973, 974, 975, 976, 977, 978, 979, 980, 981, 982] (by decide +kernel) (by decide +kernel)) (goodIn_sub (fun _ h => List.mem_append_left _ (List.mem_append_right _ h)) (by decide +kernel))
set_option maxRecDepth 20000 in
theorem gL_law_L_fewest : GoodIn wsL_law (va_wsS RL 179 yL_fewest wsL_fewest) := goodIn_app (goodIn_of _ (by decide +kernel)) ggL_law_L_fewest
