/-! every method's words are among the law's -/
set_option maxRecDepth 20000 in
theorem ggL_law_X5_undo : GoodIn wsL_law wsX5_undo := goodIn_r _ [612, 121, 134, 58, 59, 126, 127, 128, 5, 129, 952, 953, 954, 955, 956, 957, 958, 959, 960, 961, 962, 963, 964, 965, 966, 967, 968, 969] (by decide +kernel) (by decide +kernel)
set_option maxRecDepth 20000 in
theorem gL_law_X5_undo : GoodIn wsL_law (wsV RL 151 RX5 yX5_undo wsX5_undo) := goodIn_app (goodIn_of _ (by decide +kernel)) ggL_law_X5_undo
set_option maxRecDepth 20000 in
theorem ggL_law_L_keep : GoodIn wsL_law wsL_keep := goodIn_ca (goodIn_r _ [615, 72, 616, 617, 618, 2, 619, 21, 13, 14, 15, 16, 155, 81, 82, 83, 84, 85, 26, 27, 28, 11, 12, 29, 30, 31, 32, 33, 34, 35, 36, 37, 38, 39, 40, 41, 42, 43, 620, 101, 102, 103, 104, 105, 106, 107, 90, 108, 109, 110, 111, 948, 949, 950, 951, 970, 971, 972, 973, 974, 975, 976, 977, 978, 979, 980, 981, 982] (by decide +kernel) (by decide +kernel)) (goodIn_sub (fun _ h => List.mem_append_left _ (List.mem_append_right _ h)) (by decide +kernel))
set_option maxRecDepth 20000 in
theorem gL_law_L_keep : GoodIn wsL_law (va_wsS RL 152 yL_keep wsL_keep) := goodIn_app (goodIn_of _ (by decide +kernel)) ggL_law_L_keep
set_option maxRecDepth 20000 in
theorem ggL_law_X5_keep : GoodIn wsL_law wsX5_keep := goodIn_r _ [624, 121, 60, 58, 62, 123, 124, 5, 125, 126, 127, 128, 129, 952, 953, 954, 955, 956, 957, 958, 959, 960, 961, 962, 963, 964, 965, 966, 967, 968, 969] (by decide +kernel) (by decide +kernel)
set_option maxRecDepth 20000 in
theorem gL_law_X5_keep : GoodIn wsL_law (wsV RL 154 RX5 yX5_keep wsX5_keep) := goodIn_app (goodIn_of _ (by decide +kernel)) ggL_law_X5_keep
set_option maxRecDepth 20000 in
theorem ggL_law_L_goBack : GoodIn wsL_law wsL_goBack := goodIn_ca (goodIn_ca (goodIn_r _ [627, 72, 73, 628, 629, 630, 2, 631, 78, 79, 21, 20, 16, 155, 81, 82, 83, 84, 85, 91, 92, 93, 19, 94, 95, 49, 96, 97, 98, 99, 100, 101, 102, 15, 103, 30, 104, 105, 106, 107, 31, 32, 33, 34, 35, 36, 43, 90, 108, 109, 110, 111, 620, 948, 949, 950, 951, 970, 971, 972, 973, 974, 975, 976, 977, 978, 979, 980, 981, 982, 983, 984] (by decide +kernel) (by decide +kernel)) (goodIn_sub (fun _ h => List.mem_append_left _ (List.mem_append_left _ (List.mem_append_right _ h))) (by decide +kernel))) (goodIn_sub (fun _ h => List.mem_append_left _ (List.mem_append_right _ h)) (by decide +kernel))
set_option maxRecDepth 20000 in
theorem gL_law_L_goBack : GoodIn wsL_law (va_wsS RL 155 yL_goBack wsL_goBack) := goodIn_app (goodIn_of _ (by decide +kernel)) ggL_law_L_goBack
set_option maxRecDepth 20000 in
theorem ggL_law_X5_goBack : GoodIn wsL_law wsX5_goBack := goodIn_r _ [635, 121, 62, 58, 60, 123, 124, 5, 125, 126, 127, 128, 129, 130, 131, 132, 133, 134, 59, 952, 953, 954, 955, 956, 957, 958, 959, 960, 961, 962, 963, 964, 965, 966, 967, 968, 969] (by decide +kernel) (by decide +kernel)
set_option maxRecDepth 20000 in
theorem gL_law_X5_goBack : GoodIn wsL_law (wsV RL 157 RX5 yX5_goBack wsX5_goBack) := goodIn_app (goodIn_of _ (by decide +kernel)) ggL_law_X5_goBack
set_option maxRecDepth 20000 in
theorem ggL_law_L_blockOf : GoodIn wsL_law wsL_blockOf := goodIn_ca (goodIn_ca (goodIn_r _ [638, 150, 72, 639, 640, 641, 2, 642, 84, 85, 16, 643, 644, 250, 645, 646, 647, 156, 157, 158, 159, 160, 161, 162, 163, 164, 15, 165, 90, 648, 214, 215, 216, 31, 32, 217, 218, 219, 220, 221, 222, 223, 224, 225, 226, 211, 227, 213, 649, 650, 651, 652, 33, 30, 281, 282, 283, 948, 949, 950, 951, 970, 971, 972, 973, 974, 975, 976, 977, 978, 979, 980, 981, 982] (by decide +kernel) (by decide +kernel)) (goodIn_sub (fun _ h => List.mem_append_left _ (List.mem_append_right _ h)) (by decide +kernel))) (goodIn_sub (fun _ h => List.mem_append_right _ h) (by decide +kernel))
set_option maxRecDepth 20000 in
theorem gL_law_L_blockOf : GoodIn wsL_law (va_wsS RL 158 yL_blockOf wsL_blockOf) := goodIn_app (goodIn_of _ (by decide +kernel)) ggL_law_L_blockOf
set_option maxRecDepth 20000 in
theorem ggL_law_X5_blockOf : GoodIn wsL_law wsX5_blockOf := goodIn_r _ [656, 121, 186, 187, 188, 5, 189, 58, 123, 124, 125, 126, 127, 128, 129, 657, 658, 659, 660, 194, 195, 196, 197, 232, 233, 234, 235, 236, 237, 238, 239, 240, 241, 242, 661, 662, 663, 664, 952, 953, 954, 955, 956, 957, 958, 959, 960, 961, 962, 963, 964, 965, 966, 967, 968, 969] (by decide +kernel) (by decide +kernel)
set_option maxRecDepth 20000 in
theorem gL_law_X5_blockOf : GoodIn wsL_law (wsV RL 160 RX5 yX5_blockOf wsX5_blockOf) := goodIn_app (goodIn_of _ (by decide +kernel)) ggL_law_X5_blockOf
set_option maxRecDepth 20000 in
theorem ggL_law_L_stackOf : GoodIn wsL_law wsL_stackOf := goodIn_ca (goodIn_ca (goodIn_r _ [667, 150, 72, 668, 669, 670, 2, 671, 84, 85, 16, 325, 326, 327, 160, 161, 400, 338, 339, 15, 340, 341, 342, 343, 344, 90, 34, 345, 346, 347, 348, 349, 350, 351, 672, 673, 674, 675, 676, 30, 677, 678, 679, 680, 43, 681, 650, 651, 652, 33, 31, 32, 281, 282, 283, 682, 358, 359, 360, 35, 683, 684, 685, 686, 209, 210, 211, 212, 352, 218, 219, 220, 221, 222, 223, 224, 225, 226, 227, 213, 214, 215, 216, 687, 688, 689, 690, 691, 692, 948, 949, 950, 951, 970, 971, 972, 973, 974, 975, 976, 977, 978, 979, 980, 981, 982] (by decide +kernel) (by decide +kernel)) (goodIn_sub (fun _ h => List.mem_append_left _ (List.mem_append_right _ h)) (by decide +kernel))) (goodIn_sub (fun _ h => List.mem_append_right _ h) (by decide +kernel))
set_option maxRecDepth 20000 in
theorem gL_law_L_stackOf : GoodIn wsL_law (va_wsS RL 161 yL_stackOf wsL_stackOf) := goodIn_app (goodIn_of _ (by decide +kernel)) ggL_law_L_stackOf
set_option maxRecDepth 20000 in
theorem ggL_law_X5_stackOf : GoodIn wsL_law wsX5_stackOf := goodIn_r _ [696, 121, 370, 371, 5, 372, 123, 124, 125, 126, 127, 128, 129, 697, 698, 699, 700, 381, 382, 383, 384, 58, 194, 195, 196, 197, 701, 702, 703, 704, 236, 237, 238, 239, 232, 233, 234, 235, 240, 241, 242, 705, 706, 707, 708, 296, 297, 298, 661, 662, 663, 664, 389, 390, 391, 392, 952, 953, 954, 955, 956, 957, 958, 959, 960, 961, 962, 963, 964, 965, 966, 967, 968, 969] (by decide +kernel) (by decide +kernel)
set_option maxRecDepth 20000 in
theorem gL_law_X5_stackOf : GoodIn wsL_law (wsV RL 163 RX5 yX5_stackOf wsX5_stackOf) := goodIn_app (goodIn_of _ (by decide +kernel)) ggL_law_X5_stackOf
set_option maxRecDepth 20000 in
theorem ggL_law_L_ranked : GoodIn wsL_law wsL_ranked := goodIn_ca (goodIn_r _ [711, 72, 712, 713, 714, 2, 715, 16, 81, 82, 83, 84, 85, 716, 717, 718, 719, 720, 426, 721, 722, 723, 724, 725, 726, 727, 728, 729, 428, 730, 222, 223, 15, 224, 225, 226, 211, 227, 213, 214, 215, 216, 31, 32, 948, 949, 950, 951, 970, 971, 972, 973, 974, 975, 976, 977, 978, 979, 980, 981, 982] (by decide +kernel) (by decide +kernel)) (goodIn_sub (fun _ h => List.mem_append_left _ (List.mem_append_right _ h)) (by decide +kernel))
set_option maxRecDepth 20000 in
theorem gL_law_L_ranked : GoodIn wsL_law (va_wsS RL 164 yL_ranked wsL_ranked) := goodIn_app (goodIn_of _ (by decide +kernel)) ggL_law_L_ranked
