/-! every method's words are among the law's -/
set_option maxRecDepth 20000 in
theorem ggL_law_X4_init : GoodIn wsL_law wsX4_init := goodIn_r _ [9, 10, 11, 12, 13, 14, 15, 16, 17, 18, 19, 20, 21, 22, 23, 24, 25, 26, 27, 28, 29, 30, 31, 32, 33, 34, 35, 36, 37, 38, 39, 40, 41, 42, 43, 44, 45, 46, 47, 48, 49, 50, 51, 52, 53, 970, 971, 972, 973, 974, 975, 976, 977, 978, 979, 980, 981, 982, 948, 949, 950, 951, 983, 984, 985, 986, 987, 988, 989, 990] (by decide +kernel) (by decide +kernel)
set_option maxRecDepth 20000 in
theorem gL_law_X4_init : GoodIn wsL_law (wsX4_init) := ggL_law_X4_init
set_option maxRecDepth 20000 in
theorem ggL_law_X5_init : GoodIn wsL_law wsX5_init := goodIn_r _ [56, 57, 11, 12, 29, 58, 59, 60, 61, 62, 63, 64, 65, 66, 67, 952, 953, 954, 955, 956, 957, 958, 959, 960, 961, 962, 963, 964, 965, 966, 967, 968, 969] (by decide +kernel) (by decide +kernel)
set_option maxRecDepth 20000 in
theorem gL_law_X5_init : GoodIn wsL_law (wsX5_init) := ggL_law_X5_init
set_option maxRecDepth 20000 in
theorem ggL_law_L_block : GoodIn wsL_law wsL_block := goodIn_ca (goodIn_ca (goodIn_r _ [71, 72, 73, 74, 75, 76, 2, 77, 78, 79, 80, 16, 20, 81, 82, 83, 84, 85, 86, 87, 88, 15, 89, 90, 91, 92, 93, 19, 94, 95, 49, 96, 97, 98, 99, 100, 101, 102, 103, 30, 104, 105, 106, 107, 31, 32, 33, 34, 35, 36, 43, 108, 109, 110, 111, 112, 113, 114, 115, 116, 948, 949, 950, 951, 970, 971, 972, 973, 974, 975, 976, 977, 978, 979, 980, 981, 982, 983, 984] (by decide +kernel) (by decide +kernel)) (goodIn_sub (fun _ h => List.mem_append_left _ (List.mem_append_left _ (List.mem_append_right _ h))) (by decide +kernel))) (goodIn_sub (fun _ h => List.mem_append_left _ (List.mem_append_right _ h)) (by decide +kernel))
set_option maxRecDepth 20000 in
theorem gL_law_L_block : GoodIn wsL_law (va_wsS RL 100 yL_block wsL_block) := goodIn_app (goodIn_of _ (by decide +kernel)) ggL_law_L_block
set_option maxRecDepth 20000 in
theorem ggL_law_X5_block : GoodIn wsL_law wsX5_block := goodIn_r _ [120, 121, 122, 58, 123, 124, 5, 125, 126, 127, 128, 129, 130, 131, 132, 133, 134, 59, 135, 136, 137, 138, 139, 140, 141, 142, 952, 953, 954, 955, 956, 957, 958, 959, 960, 961, 962, 963, 964, 965, 966, 967, 968, 969] (by decide +kernel) (by decide +kernel)
set_option maxRecDepth 20000 in
theorem gL_law_X5_block : GoodIn wsL_law (wsV RL 105 RX5 yX5_block wsX5_block) := goodIn_app (goodIn_of _ (by decide +kernel)) ggL_law_X5_block
set_option maxRecDepth 20000 in
theorem ggL_law_X5_thrown : GoodIn wsL_law wsX5_thrown := goodIn_r _ [146, 121, 952, 953, 954, 955, 956, 957, 958, 959, 960, 961, 962, 963, 964, 965, 966, 967, 968, 969] (by decide +kernel) (by decide +kernel)
set_option maxRecDepth 20000 in
theorem gL_law_X5_thrown : GoodIn wsL_law (wsV RL 106 RX5 yX5_thrown wsX5_thrown) := goodIn_app (goodIn_of _ (by decide +kernel)) ggL_law_X5_thrown
set_option maxRecDepth 20000 in
theorem ggL_law_L_discard : GoodIn wsL_law wsL_discard := goodIn_ca (goodIn_ca (goodIn_r _ [149, 150, 73, 151, 152, 153, 2, 154, 20, 16, 155, 156, 157, 158, 159, 160, 161, 162, 163, 164, 15, 165, 90, 166, 167, 168, 169, 78, 79, 170, 171, 172, 173, 34, 91, 92, 93, 19, 94, 95, 49, 96, 97, 98, 99, 100, 101, 102, 103, 30, 104, 105, 106, 107, 31, 32, 33, 35, 36, 43, 108, 109, 110, 111, 174, 175, 176, 177, 178, 179, 180, 181, 948, 949, 950, 951, 970, 971, 972, 973, 974, 975, 976, 977, 978, 979, 980, 981, 982, 983, 984] (by decide +kernel) (by decide +kernel)) (goodIn_sub (fun _ h => List.mem_append_right _ h) (by decide +kernel))) (goodIn_sub (fun _ h => List.mem_append_left _ (List.mem_append_left _ (List.mem_append_right _ h))) (by decide +kernel))
set_option maxRecDepth 20000 in
theorem gL_law_L_discard : GoodIn wsL_law (va_wsS RL 109 yL_discard wsL_discard) := goodIn_app (goodIn_of _ (by decide +kernel)) ggL_law_L_discard
set_option maxRecDepth 20000 in
theorem ggL_law_X5_discard : GoodIn wsL_law wsX5_discard := goodIn_r _ [185, 121, 58, 186, 187, 188, 5, 189, 123, 124, 125, 126, 127, 128, 129, 190, 191, 192, 193, 194, 195, 196, 197, 130, 131, 132, 133, 134, 59, 952, 953, 954, 955, 956, 957, 958, 959, 960, 961, 962, 963, 964, 965, 966, 967, 968, 969] (by decide +kernel) (by decide +kernel)
set_option maxRecDepth 20000 in
theorem gL_law_X5_discard : GoodIn wsL_law (wsV RL 112 RX5 yX5_discard wsX5_discard) := goodIn_app (goodIn_of _ (by decide +kernel)) ggL_law_X5_discard
set_option maxRecDepth 20000 in
theorem ggL_law_L_calibrate : GoodIn wsL_law wsL_calibrate := goodIn_ca (goodIn_ca (goodIn_r _ [200, 150, 73, 201, 202, 203, 2, 204, 20, 16, 156, 157, 158, 159, 160, 161, 162, 163, 164, 15, 165, 90, 166, 167, 168, 169, 78, 79, 170, 171, 172, 173, 34, 91, 92, 93, 19, 94, 95, 49, 96, 97, 98, 99, 100, 101, 102, 103, 30, 104, 105, 106, 107, 31, 32, 33, 35, 36, 43, 108, 109, 110, 111, 205, 206, 207, 208, 209, 210, 211, 212, 213, 214, 215, 216, 217, 218, 219, 220, 221, 222, 223, 224, 225, 226, 227, 948, 949, 950, 951, 970, 971, 972, 973, 974, 975, 976, 977, 978, 979, 980, 981, 982, 983, 984] (by decide +kernel) (by decide +kernel)) (goodIn_sub (fun _ h => List.mem_append_right _ h) (by decide +kernel))) (goodIn_sub (fun _ h => List.mem_append_left _ (List.mem_append_left _ (List.mem_append_right _ h))) (by decide +kernel))
set_option maxRecDepth 20000 in
theorem gL_law_L_calibrate : GoodIn wsL_law (va_wsS RL 113 yL_calibrate wsL_calibrate) := goodIn_app (goodIn_of _ (by decide +kernel)) ggL_law_L_calibrate
set_option maxRecDepth 20000 in
theorem ggL_law_X5_calibrate : GoodIn wsL_law wsX5_calibrate := goodIn_r _ [231, 121, 186, 187, 188, 5, 189, 58, 123, 124, 125, 126, 127, 128, 129, 190, 191, 192, 193, 194, 195, 196, 197, 130, 131, 132, 133, 134, 59, 232, 233, 234, 235, 139, 140, 141, 142, 236, 237, 238, 239, 240, 241, 242, 952, 953, 954, 955, 956, 957, 958, 959, 960, 961, 962, 963, 964, 965, 966, 967, 968, 969] (by decide +kernel) (by decide +kernel)
set_option maxRecDepth 20000 in
theorem gL_law_X5_calibrate : GoodIn wsL_law (wsV RL 115 RX5 yX5_calibrate wsX5_calibrate) := goodIn_app (goodIn_of _ (by decide +kernel)) ggL_law_X5_calibrate
set_option maxRecDepth 20000 in
theorem ggL_law_L_hold : GoodIn wsL_law wsL_hold := goodIn_ca (goodIn_ca (goodIn_r _ [245, 150, 72, 246, 247, 248, 2, 249, 20, 16, 250, 156, 157, 158, 159, 160, 161, 162, 163, 164, 15, 165, 90, 81, 82, 83, 84, 85, 91, 92, 93, 19, 94, 95, 49, 96, 97, 98, 99, 100, 101, 102, 103, 30, 104, 105, 106, 107, 31, 32, 33, 34, 35, 36, 43, 108, 109, 110, 111, 251, 252, 253, 254, 255, 256, 211, 257, 948, 949, 950, 951, 970, 971, 972, 973, 974, 975, 976, 977, 978, 979, 980, 981, 982, 983, 984] (by decide +kernel) (by decide +kernel)) (goodIn_sub (fun _ h => List.mem_append_right _ h) (by decide +kernel))) (goodIn_sub (fun _ h => List.mem_append_left _ (List.mem_append_right _ h)) (by decide +kernel))
set_option maxRecDepth 20000 in
theorem gL_law_L_hold : GoodIn wsL_law (va_wsS RL 116 yL_hold wsL_hold) := goodIn_app (goodIn_of _ (by decide +kernel)) ggL_law_L_hold
