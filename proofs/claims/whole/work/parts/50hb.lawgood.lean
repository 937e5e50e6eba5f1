/-! every method's words are among the law's -/
set_option maxRecDepth 20000 in
theorem ggL_law_X5_hold : GoodIn wsL_law wsX5_hold := goodIn_r _ [261, 121, 186, 187, 188, 5, 189, 58, 123, 124, 125, 126, 127, 128, 129, 130, 131, 132, 133, 134, 59, 262, 263, 264, 265, 266, 267, 268, 269, 194, 195, 196, 197, 139, 140, 141, 142, 952, 953, 954, 955, 956, 957, 958, 959, 960, 961, 962, 963, 964, 965, 966, 967, 968, 969] (by decide +kernel) (by decide +kernel)
set_option maxRecDepth 20000 in
theorem gL_law_X5_hold : GoodIn wsL_law (wsV RL 118 RX5 yX5_hold wsX5_hold) := goodIn_app (goodIn_of _ (by decide +kernel)) ggL_law_X5_hold
set_option maxRecDepth 20000 in
theorem ggL_law_L_rest : GoodIn wsL_law wsL_rest := goodIn_ca (goodIn_r _ [272, 72, 273, 274, 275, 2, 276, 20, 16, 81, 82, 83, 84, 85, 91, 92, 93, 19, 94, 95, 49, 96, 97, 98, 99, 100, 101, 102, 15, 103, 30, 104, 105, 106, 107, 31, 32, 33, 34, 35, 36, 43, 90, 108, 109, 110, 111, 277, 278, 279, 280, 281, 282, 283, 284, 285, 286, 287, 209, 210, 211, 212, 948, 949, 950, 951, 983, 984, 970, 971, 972, 973, 974, 975, 976, 977, 978, 979, 980, 981, 982] (by decide +kernel) (by decide +kernel)) (goodIn_sub (fun _ h => List.mem_append_left _ (List.mem_append_right _ h)) (by decide +kernel))
set_option maxRecDepth 20000 in
theorem gL_law_L_rest : GoodIn wsL_law (va_wsS RL 119 yL_rest wsL_rest) := goodIn_app (goodIn_of _ (by decide +kernel)) ggL_law_L_rest
set_option maxRecDepth 20000 in
theorem ggL_law_X5_rest : GoodIn wsL_law wsX5_rest := goodIn_r _ [291, 121, 123, 124, 5, 125, 126, 127, 128, 129, 130, 131, 132, 133, 134, 59, 58, 292, 293, 294, 295, 194, 195, 196, 197, 296, 297, 298, 139, 140, 141, 142, 952, 953, 954, 955, 956, 957, 958, 959, 960, 961, 962, 963, 964, 965, 966, 967, 968, 969] (by decide +kernel) (by decide +kernel)
set_option maxRecDepth 20000 in
theorem gL_law_X5_rest : GoodIn wsL_law (wsV RL 121 RX5 yX5_rest wsX5_rest) := goodIn_app (goodIn_of _ (by decide +kernel)) ggL_law_X5_rest
set_option maxRecDepth 20000 in
theorem ggL_law_L_set : GoodIn wsL_law wsL_set := goodIn_ca (goodIn_ca (goodIn_r _ [301, 150, 72, 302, 303, 304, 2, 305, 306, 20, 16, 307, 308, 309, 310, 160, 161, 81, 82, 83, 84, 85, 91, 92, 93, 19, 94, 95, 49, 96, 97, 98, 99, 100, 101, 102, 15, 103, 30, 104, 105, 106, 107, 31, 32, 33, 34, 35, 36, 43, 90, 108, 109, 110, 111, 948, 949, 950, 951, 970, 971, 972, 973, 974, 975, 976, 977, 978, 979, 980, 981, 982, 983, 984] (by decide +kernel) (by decide +kernel)) (goodIn_sub (fun _ h => List.mem_append_right _ h) (by decide +kernel))) (goodIn_sub (fun _ h => List.mem_append_left _ (List.mem_append_right _ h)) (by decide +kernel))
set_option maxRecDepth 20000 in
theorem gL_law_L_set : GoodIn wsL_law (va_wsS RL 122 yL_set wsL_set) := goodIn_app (goodIn_of _ (by decide +kernel)) ggL_law_L_set
set_option maxRecDepth 20000 in
theorem ggL_law_X5_set : GoodIn wsL_law wsX5_set := goodIn_r _ [314, 121, 58, 123, 124, 5, 125, 126, 127, 128, 129, 315, 316, 317, 130, 131, 132, 133, 134, 59, 952, 953, 954, 955, 956, 957, 958, 959, 960, 961, 962, 963, 964, 965, 966, 967, 968, 969] (by decide +kernel) (by decide +kernel)
set_option maxRecDepth 20000 in
theorem gL_law_X5_set : GoodIn wsL_law (wsV RL 124 RX5 yX5_set wsX5_set) := goodIn_app (goodIn_of _ (by decide +kernel)) ggL_law_X5_set
set_option maxRecDepth 20000 in
theorem ggL_law_L_wring : GoodIn wsL_law wsL_wring := goodIn_ca (goodIn_r _ [320, 150, 321, 322, 323, 2, 324, 20, 16, 325, 326, 327, 160, 161, 156, 157, 158, 159, 162, 163, 164, 15, 165, 90, 91, 92, 93, 19, 94, 95, 49, 96, 97, 98, 99, 100, 101, 102, 103, 30, 104, 105, 106, 107, 31, 32, 33, 34, 35, 36, 43, 108, 109, 110, 111, 328, 329, 330, 331, 332, 333, 334, 335, 336, 171, 172, 173, 337, 338, 339, 340, 341, 342, 343, 344, 345, 346, 347, 348, 349, 350, 351, 352, 218, 219, 220, 221, 222, 223, 224, 225, 226, 211, 227, 213, 214, 215, 216, 353, 354, 355, 356, 357, 358, 359, 360, 361, 362, 363, 364, 365, 252, 253, 254, 255, 256, 257, 948, 949, 950, 951, 970, 971, 972, 973, 974, 975, 976, 977, 978, 979, 980, 981, 982, 983, 984] (by decide +kernel) (by decide +kernel)) (goodIn_sub (fun _ h => List.mem_append_right _ h) (by decide +kernel))
set_option maxRecDepth 20000 in
theorem gL_law_L_wring : GoodIn wsL_law (va_wsS RL 125 yL_wring wsL_wring) := goodIn_app (goodIn_of _ (by decide +kernel)) ggL_law_L_wring
set_option maxRecDepth 20000 in
theorem ggL_law_X5_wring : GoodIn wsL_law wsX5_wring := goodIn_r _ [369, 121, 370, 371, 5, 372, 123, 124, 125, 186, 187, 188, 189, 58, 126, 127, 128, 129, 130, 131, 132, 133, 134, 59, 373, 374, 375, 376, 377, 378, 379, 380, 190, 191, 192, 193, 194, 195, 196, 197, 381, 382, 383, 384, 236, 237, 238, 239, 232, 233, 234, 235, 240, 241, 242, 139, 140, 141, 142, 385, 386, 387, 388, 266, 267, 268, 269, 389, 390, 391, 392, 952, 953, 954, 955, 956, 957, 958, 959, 960, 961, 962, 963, 964, 965, 966, 967, 968, 969] (by decide +kernel) (by decide +kernel)
set_option maxRecDepth 20000 in
theorem gL_law_X5_wring : GoodIn wsL_law (wsV RL 127 RX5 yX5_wring wsX5_wring) := goodIn_app (goodIn_of _ (by decide +kernel)) ggL_law_X5_wring
set_option maxRecDepth 20000 in
theorem ggL_law_L_takeOff : GoodIn wsL_law wsL_takeOff := goodIn_ca (goodIn_ca (goodIn_r _ [395, 150, 73, 396, 397, 398, 2, 399, 78, 79, 16, 20, 325, 326, 327, 160, 161, 400, 338, 339, 15, 340, 341, 342, 343, 344, 90, 34, 345, 346, 347, 348, 349, 350, 351, 91, 92, 93, 19, 94, 95, 49, 96, 97, 98, 99, 100, 101, 102, 103, 30, 104, 105, 106, 107, 31, 32, 33, 35, 36, 43, 108, 109, 110, 111, 401, 402, 403, 404, 337, 357, 358, 359, 360, 361, 362, 363, 364, 365, 252, 253, 254, 255, 256, 211, 257, 948, 949, 950, 951, 970, 971, 972, 973, 974, 975, 976, 977, 978, 979, 980, 981, 982, 983, 984] (by decide +kernel) (by decide +kernel)) (goodIn_sub (fun _ h => List.mem_append_left _ (List.mem_append_left _ (List.mem_append_right _ h))) (by decide +kernel))) (goodIn_sub (fun _ h => List.mem_append_right _ h) (by decide +kernel))
set_option maxRecDepth 20000 in
theorem gL_law_L_takeOff : GoodIn wsL_law (va_wsS RL 128 yL_takeOff wsL_takeOff) := goodIn_app (goodIn_of _ (by decide +kernel)) ggL_law_L_takeOff
set_option maxRecDepth 20000 in
theorem ggL_law_X5_takeOff : GoodIn wsL_law wsX5_takeOff := goodIn_r _ [408, 121, 370, 371, 5, 372, 123, 124, 125, 126, 127, 128, 129, 381, 382, 383, 384, 58, 194, 195, 196, 197, 130, 131, 132, 133, 134, 59, 409, 410, 411, 412, 389, 390, 391, 392, 385, 386, 387, 388, 266, 267, 268, 269, 139, 140, 141, 142, 952, 953, 954, 955, 956, 957, 958, 959, 960, 961, 962, 963, 964, 965, 966, 967, 968, 969] (by decide +kernel) (by decide +kernel)
set_option maxRecDepth 20000 in
theorem gL_law_X5_takeOff : GoodIn wsL_law (wsV RL 130 RX5 yX5_takeOff wsX5_takeOff) := goodIn_app (goodIn_of _ (by decide +kernel)) ggL_law_X5_takeOff
set_option maxRecDepth 20000 in
theorem ggL_law_L_make : GoodIn wsL_law wsL_make := goodIn_ca (goodIn_ca (goodIn_ca (goodIn_r _ [415, 150, 72, 73, 416, 417, 418, 2, 419, 78, 79, 16, 20, 325, 326, 327, 160, 161, 420, 421, 422, 423, 81, 82, 83, 84, 85, 400, 338, 339, 15, 340, 341, 342, 343, 344, 90, 34, 345, 346, 347, 348, 349, 350, 351, 91, 92, 93, 19, 94, 95, 49, 96, 97, 98, 99, 100, 101, 102, 103, 30, 104, 105, 106, 107, 31, 32, 33, 35, 36, 43, 108, 109, 110, 111, 424, 425, 426, 427, 428, 429, 430, 431, 432, 433, 434, 435, 436, 437, 438, 329, 330, 331, 332, 333, 334, 335, 336, 171, 172, 173, 337, 352, 218, 219, 220, 221, 222, 223, 224, 225, 226, 211, 227, 213, 214, 215, 216, 353, 354, 355, 356, 357, 358, 359, 360, 361, 362, 363, 364, 365, 252, 253, 254, 255, 256, 257, 948, 949, 950, 951, 970, 971, 972, 973, 974, 975, 976, 977, 978, 979, 980, 981, 982, 983, 984] (by decide +kernel) (by decide +kernel)) (goodIn_sub (fun _ h => List.mem_append_left _ (List.mem_append_left _ (List.mem_append_right _ h))) (by decide +kernel))) (goodIn_sub (fun _ h => List.mem_append_right _ h) (by decide +kernel))) (goodIn_sub (fun _ h => List.mem_append_left _ (List.mem_append_right _ h)) (by decide +kernel))
set_option maxRecDepth 20000 in
theorem gL_law_L_make : GoodIn wsL_law (va_wsS RL 131 yL_make wsL_make) := goodIn_app (goodIn_of _ (by decide +kernel)) ggL_law_L_make
