/-! every method's words are among the law's -/
set_option maxRecDepth 20000 in
theorem ggL_law_X5_fewest : GoodIn wsL_law wsX5_fewest := goodIn_r _ [846, 121, 443, 444, 5, 445, 446, 123, 124, 125, 847, 848, 849, 850, 451, 452, 453, 454, 455, 456, 457, 458, 459, 58, 63, 190, 191, 192, 193, 194, 195, 196, 197, 460, 461, 462, 463, 464, 465, 466, 467, 468, 469, 470, 851, 852, 853, 126, 127, 128, 129, 952, 953, 954, 955, 956, 957, 958, 959, 960, 961, 962, 963, 964, 965, 966, 967, 968, 969] (by decide +kernel) (by decide +kernel)
set_option maxRecDepth 20000 in
theorem gL_law_X5_fewest : GoodIn wsL_law (wsV RL 181 RX5 yX5_fewest wsX5_fewest) := goodIn_app (goodIn_of _ (by decide +kernel)) ggL_law_X5_fewest
set_option maxRecDepth 20000 in
theorem ggL_law_L_oldWay : GoodIn wsL_law wsL_oldWay := goodIn_ca (goodIn_r _ [856, 72, 857, 858, 859, 2, 860, 16, 420, 421, 422, 423, 81, 82, 83, 84, 85, 861, 862, 426, 863, 428, 864, 865, 866, 722, 867, 868, 869, 759, 171, 172, 15, 173, 34, 673, 674, 675, 676, 90, 30, 842, 346, 347, 348, 349, 350, 351, 948, 949, 950, 951, 970, 971, 972, 973, 974, 975, 976, 977, 978, 979, 980, 981, 982] (by decide +kernel) (by decide +kernel)) (goodIn_sub (fun _ h => List.mem_append_left _ (List.mem_append_right _ h)) (by decide +kernel))
set_option maxRecDepth 20000 in
theorem gL_law_L_oldWay : GoodIn wsL_law (va_wsS RL 182 yL_oldWay wsL_oldWay) := goodIn_app (goodIn_of _ (by decide +kernel)) ggL_law_L_oldWay
set_option maxRecDepth 20000 in
theorem ggL_law_X5_oldWay : GoodIn wsL_law wsX5_oldWay := goodIn_r _ [873, 121, 443, 444, 5, 445, 446, 123, 124, 125, 874, 875, 876, 877, 878, 879, 880, 881, 882, 883, 58, 194, 195, 196, 197, 190, 191, 192, 193, 126, 127, 128, 129, 952, 953, 954, 955, 956, 957, 958, 959, 960, 961, 962, 963, 964, 965, 966, 967, 968, 969] (by decide +kernel) (by decide +kernel)
set_option maxRecDepth 20000 in
theorem gL_law_X5_oldWay : GoodIn wsL_law (wsV RL 184 RX5 yX5_oldWay wsX5_oldWay) := goodIn_app (goodIn_of _ (by decide +kernel)) ggL_law_X5_oldWay
set_option maxRecDepth 20000 in
theorem ggL_law_L_nearest : GoodIn wsL_law wsL_nearest := goodIn_ca (goodIn_r _ [886, 72, 887, 888, 889, 2, 890, 16, 420, 421, 422, 423, 81, 82, 83, 84, 85, 891, 892, 426, 893, 722, 428, 759, 171, 172, 15, 173, 34, 894, 895, 896, 897, 226, 211, 227, 898, 256, 257, 948, 949, 950, 951, 970, 971, 972, 973, 974, 975, 976, 977, 978, 979, 980, 981, 982] (by decide +kernel) (by decide +kernel)) (goodIn_sub (fun _ h => List.mem_append_left _ (List.mem_append_right _ h)) (by decide +kernel))
set_option maxRecDepth 20000 in
theorem gL_law_L_nearest : GoodIn wsL_law (va_wsS RL 185 yL_nearest wsL_nearest) := goodIn_app (goodIn_of _ (by decide +kernel)) ggL_law_L_nearest
set_option maxRecDepth 20000 in
theorem ggL_law_X5_nearest : GoodIn wsL_law wsX5_nearest := goodIn_r _ [902, 121, 443, 444, 5, 445, 446, 123, 124, 125, 903, 904, 905, 906, 455, 63, 456, 457, 458, 459, 58, 190, 191, 192, 193, 194, 195, 196, 197, 907, 908, 909, 240, 241, 242, 126, 127, 128, 129, 952, 953, 954, 955, 956, 957, 958, 959, 960, 961, 962, 963, 964, 965, 966, 967, 968, 969] (by decide +kernel) (by decide +kernel)
set_option maxRecDepth 20000 in
theorem gL_law_X5_nearest : GoodIn wsL_law (wsV RL 187 RX5 yX5_nearest wsX5_nearest) := goodIn_app (goodIn_of _ (by decide +kernel)) ggL_law_X5_nearest
set_option maxRecDepth 20000 in
theorem ggL_law_L_coolIn : GoodIn wsL_law wsL_coolIn := goodIn_ca (goodIn_r _ [912, 150, 913, 914, 915, 2, 916, 16, 156, 157, 158, 159, 160, 161, 162, 163, 164, 15, 165, 90, 917, 918, 919, 920, 33, 43, 281, 282, 283, 948, 949, 950, 951, 970, 971, 972, 973, 974, 975, 976, 977, 978, 979, 980, 981, 982] (by decide +kernel) (by decide +kernel)) (goodIn_sub (fun _ h => List.mem_append_right _ h) (by decide +kernel))
set_option maxRecDepth 20000 in
theorem gL_law_L_coolIn : GoodIn wsL_law (va_wsS RL 188 yL_coolIn wsL_coolIn) := goodIn_app (goodIn_of _ (by decide +kernel)) ggL_law_L_coolIn
set_option maxRecDepth 20000 in
theorem ggL_law_X5_coolIn : GoodIn wsL_law wsX5_coolIn := goodIn_r _ [924, 121, 58, 186, 187, 188, 5, 189, 123, 124, 125, 126, 127, 128, 129, 194, 195, 196, 197, 296, 297, 298, 952, 953, 954, 955, 956, 957, 958, 959, 960, 961, 962, 963, 964, 965, 966, 967, 968, 969] (by decide +kernel) (by decide +kernel)
set_option maxRecDepth 20000 in
theorem gL_law_X5_coolIn : GoodIn wsL_law (wsV RL 190 RX5 yX5_coolIn wsX5_coolIn) := goodIn_app (goodIn_of _ (by decide +kernel)) ggL_law_X5_coolIn
set_option maxRecDepth 20000 in
theorem ggL_law_L_lengthIn : GoodIn wsL_law wsL_lengthIn := goodIn_ca (goodIn_ca (goodIn_r _ [927, 150, 72, 928, 929, 930, 2, 931, 16, 325, 326, 327, 160, 161, 81, 82, 83, 84, 85, 677, 678, 679, 15, 680, 90, 34, 43, 681, 650, 651, 652, 33, 30, 31, 32, 281, 282, 283, 948, 949, 950, 951, 970, 971, 972, 973, 974, 975, 976, 977, 978, 979, 980, 981, 982] (by decide +kernel) (by decide +kernel)) (goodIn_sub (fun _ h => List.mem_append_right _ h) (by decide +kernel))) (goodIn_sub (fun _ h => List.mem_append_left _ (List.mem_append_right _ h)) (by decide +kernel))
set_option maxRecDepth 20000 in
theorem gL_law_L_lengthIn : GoodIn wsL_law (va_wsS RL 191 yL_lengthIn wsL_lengthIn) := goodIn_app (goodIn_of _ (by decide +kernel)) ggL_law_L_lengthIn
set_option maxRecDepth 20000 in
theorem ggL_law_X5_lengthIn : GoodIn wsL_law wsX5_lengthIn := goodIn_r _ [935, 121, 370, 371, 5, 372, 123, 124, 125, 126, 127, 128, 129, 705, 706, 707, 708, 58, 194, 195, 196, 197, 296, 297, 298, 661, 662, 663, 664, 232, 233, 234, 235, 952, 953, 954, 955, 956, 957, 958, 959, 960, 961, 962, 963, 964, 965, 966, 967, 968, 969] (by decide +kernel) (by decide +kernel)
set_option maxRecDepth 20000 in
theorem gL_law_X5_lengthIn : GoodIn wsL_law (wsV RL 193 RX5 yX5_lengthIn wsX5_lengthIn) := goodIn_app (goodIn_of _ (by decide +kernel)) ggL_law_X5_lengthIn
set_option maxRecDepth 20000 in
theorem ggL_law_X4_meanError : GoodIn wsL_law wsX4_meanError := goodIn_r _ [939, 16, 155, 940, 941, 942, 15, 943, 90, 221, 222, 223, 224, 225, 226, 211, 227, 213, 214, 215, 216, 31, 32, 948, 949, 950, 951, 970, 971, 972, 973, 974, 975, 976, 977, 978, 979, 980, 981, 982] (by decide +kernel) (by decide +kernel)
set_option maxRecDepth 20000 in
theorem gL_law_X4_meanError : GoodIn wsL_law (wsV RL 194 RX4 yX4_meanError wsX4_meanError) := goodIn_app (goodIn_of _ (by decide +kernel)) ggL_law_X4_meanError
