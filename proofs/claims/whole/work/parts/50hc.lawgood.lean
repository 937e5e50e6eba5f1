/-! every method's words are among the law's -/
set_option maxRecDepth 20000 in
theorem ggL_law_X5_make : GoodIn wsL_law wsX5_make := goodIn_r _ [442, 121, 370, 371, 5, 372, 123, 124, 125, 126, 127, 128, 129, 443, 444, 445, 446, 381, 382, 383, 384, 58, 194, 195, 196, 197, 130, 131, 132, 133, 134, 59, 447, 448, 449, 450, 451, 452, 453, 454, 455, 456, 457, 458, 459, 63, 190, 191, 192, 193, 460, 461, 462, 463, 464, 465, 466, 467, 468, 469, 470, 373, 374, 375, 376, 377, 378, 379, 380, 236, 237, 238, 239, 232, 233, 234, 235, 240, 241, 242, 139, 140, 141, 142, 385, 386, 387, 388, 266, 267, 268, 269, 389, 390, 391, 392, 952, 953, 954, 955, 956, 957, 958, 959, 960, 961, 962, 963, 964, 965, 966, 967, 968, 969] (by decide +kernel) (by decide +kernel)
set_option maxRecDepth 20000 in
theorem gL_law_X5_make : GoodIn wsL_law (wsV RL 133 RX5 yX5_make wsX5_make) := goodIn_app (goodIn_of _ (by decide +kernel)) ggL_law_X5_make
set_option maxRecDepth 20000 in
theorem ggL_law_L_append : GoodIn wsL_law wsL_append := goodIn_ca (goodIn_ca (goodIn_r _ [473, 72, 73, 474, 475, 476, 2, 477, 78, 79, 25, 478, 81, 82, 83, 84, 85, 479, 480, 481, 24, 482, 483, 53, 948, 949, 950, 951, 985, 986, 987, 988, 989, 990] (by decide +kernel) (by decide +kernel)) (goodIn_sub (fun _ h => List.mem_append_left _ (List.mem_append_left _ (List.mem_append_right _ h))) (by decide +kernel))) (goodIn_sub (fun _ h => List.mem_append_left _ (List.mem_append_right _ h)) (by decide +kernel))
set_option maxRecDepth 20000 in
theorem gL_law_L_append : GoodIn wsL_law (va_wsS RL 134 yL_append wsL_append) := goodIn_app (goodIn_of _ (by decide +kernel)) ggL_law_L_append
set_option maxRecDepth 20000 in
theorem ggL_law_X5_append : GoodIn wsL_law wsX5_append := goodIn_r _ [487, 121, 488, 64, 123, 124, 5, 125, 126, 127, 128, 129, 952, 953, 954, 955, 956, 957, 958, 959, 960, 961, 962, 963, 964, 965, 966, 967, 968, 969] (by decide +kernel) (by decide +kernel)
set_option maxRecDepth 20000 in
theorem gL_law_X5_append : GoodIn wsL_law (wsV RL 136 RX5 yX5_append wsX5_append) := goodIn_app (goodIn_of _ (by decide +kernel)) ggL_law_X5_append
set_option maxRecDepth 20000 in
theorem ggL_law_X4_clearBuffer : GoodIn wsL_law wsX4_clearBuffer := goodIn_r _ [492, 25, 478, 948, 949, 950, 951, 985, 986, 987, 988, 989, 990] (by decide +kernel) (by decide +kernel)
set_option maxRecDepth 20000 in
theorem gL_law_X4_clearBuffer : GoodIn wsL_law (wsV RL 137 RX4 yX4_clearBuffer wsX4_clearBuffer) := goodIn_app (goodIn_of _ (by decide +kernel)) ggL_law_X4_clearBuffer
set_option maxRecDepth 20000 in
theorem ggL_law_X5_clearBuffer : GoodIn wsL_law wsX5_clearBuffer := goodIn_r _ [496, 121, 488, 952, 953, 954, 955, 956, 957, 958, 959, 960, 961, 962, 963, 964, 965, 966, 967, 968, 969] (by decide +kernel) (by decide +kernel)
set_option maxRecDepth 20000 in
theorem gL_law_X5_clearBuffer : GoodIn wsL_law (wsV RL 140 RX5 yX5_clearBuffer wsX5_clearBuffer) := goodIn_app (goodIn_of _ (by decide +kernel)) ggL_law_X5_clearBuffer
set_option maxRecDepth 20000 in
theorem ggL_law_X4_firstError : GoodIn wsL_law wsX4_firstError := goodIn_r _ [500, 25, 501, 502, 503, 504, 24, 505, 506, 507, 508, 509, 510, 53, 511, 512, 513, 514, 515, 516, 483, 517, 518, 519, 520, 521, 522, 523, 524, 525, 526, 527, 528, 529, 530, 531, 532, 533, 534, 535, 536, 256, 211, 257, 537, 538, 539, 540, 541, 948, 949, 950, 951, 985, 986, 987, 988, 989, 990] (by decide +kernel) (by decide +kernel)
set_option maxRecDepth 20000 in
theorem gL_law_X4_firstError : GoodIn wsL_law (wsV RL 141 RX4 yX4_firstError wsX4_firstError) := goodIn_app (goodIn_of _ (by decide +kernel)) ggL_law_X4_firstError
set_option maxRecDepth 20000 in
theorem ggL_law_X5_firstError : GoodIn wsL_law wsX5_firstError := goodIn_r _ [545, 121, 488, 546, 547, 548, 549, 5, 550, 551, 552, 553, 554, 555, 64, 65, 67, 556, 557, 558, 559, 560, 122, 66, 561, 562, 563, 564, 565, 566, 567, 568, 123, 124, 125, 569, 570, 571, 572, 952, 953, 954, 955, 956, 957, 958, 959, 960, 961, 962, 963, 964, 965, 966, 967, 968, 969] (by decide +kernel) (by decide +kernel)
set_option maxRecDepth 20000 in
theorem gL_law_X5_firstError : GoodIn wsL_law (wsV RL 144 RX5 yX5_firstError wsX5_firstError) := goodIn_app (goodIn_of _ (by decide +kernel)) ggL_law_X5_firstError
set_option maxRecDepth 20000 in
theorem ggL_law_L_execute : GoodIn wsL_law wsL_execute := goodIn_ca (goodIn_r _ [575, 72, 576, 577, 578, 2, 579, 84, 85, 25, 20, 16, 501, 580, 581, 582, 478, 502, 503, 504, 24, 505, 506, 507, 508, 509, 510, 53, 511, 512, 513, 514, 515, 516, 483, 517, 518, 519, 520, 521, 522, 523, 524, 525, 526, 527, 528, 529, 530, 531, 532, 533, 534, 535, 536, 256, 211, 257, 537, 538, 539, 540, 541, 91, 92, 93, 19, 94, 95, 49, 96, 97, 98, 99, 100, 101, 102, 15, 103, 30, 104, 105, 106, 107, 31, 32, 33, 34, 35, 36, 43, 90, 108, 109, 110, 111, 583, 584, 585, 586, 587, 112, 113, 114, 115, 116, 87, 88, 89, 162, 163, 164, 165, 328, 329, 330, 331, 332, 333, 334, 335, 336, 171, 172, 173, 337, 338, 339, 340, 341, 342, 343, 344, 345, 346, 347, 348, 349, 350, 351, 352, 218, 219, 220, 221, 222, 223, 224, 225, 226, 227, 213, 214, 215, 216, 353, 354, 355, 356, 357, 358, 359, 360, 361, 362, 363, 364, 365, 252, 253, 254, 255, 401, 402, 403, 404, 251, 277, 278, 279, 280, 281, 282, 283, 588, 948, 949, 950, 951, 985, 986, 987, 988, 989, 990, 983, 984, 970, 971, 972, 973, 974, 975, 976, 977, 978, 979, 980, 981, 982] (by decide +kernel) (by decide +kernel)) (goodIn_sub (fun _ h => List.mem_append_left _ (List.mem_append_right _ h)) (by decide +kernel))
set_option maxRecDepth 20000 in
theorem gL_law_L_execute : GoodIn wsL_law (va_wsS RL 145 yL_execute wsL_execute) := goodIn_app (goodIn_of _ (by decide +kernel)) ggL_law_L_execute
set_option maxRecDepth 20000 in
theorem ggL_law_X5_execute : GoodIn wsL_law wsX5_execute := goodIn_r _ [592, 121, 551, 488, 547, 548, 549, 5, 550, 546, 552, 553, 554, 555, 64, 65, 67, 556, 557, 558, 559, 560, 122, 66, 561, 562, 563, 564, 565, 566, 567, 568, 123, 124, 125, 569, 570, 571, 572, 126, 127, 128, 129, 130, 131, 132, 133, 134, 59, 58, 593, 594, 595, 596, 135, 136, 137, 138, 139, 140, 141, 142, 186, 187, 188, 189, 373, 374, 375, 376, 377, 378, 379, 380, 190, 191, 192, 193, 194, 195, 196, 197, 381, 382, 383, 384, 236, 237, 238, 239, 232, 233, 234, 235, 240, 241, 242, 385, 386, 387, 388, 266, 267, 268, 269, 389, 390, 391, 392, 409, 410, 411, 412, 262, 263, 264, 265, 292, 293, 294, 295, 296, 297, 298, 952, 953, 954, 955, 956, 957, 958, 959, 960, 961, 962, 963, 964, 965, 966, 967, 968, 969] (by decide +kernel) (by decide +kernel)
set_option maxRecDepth 20000 in
theorem gL_law_X5_execute : GoodIn wsL_law (wsV RL 148 RX5 yX5_execute wsX5_execute) := goodIn_app (goodIn_of _ (by decide +kernel)) ggL_law_X5_execute
set_option maxRecDepth 20000 in
theorem ggL_law_L_undo : GoodIn wsL_law wsL_undo := goodIn_ca (goodIn_r _ [599, 73, 600, 601, 602, 2, 603, 78, 79, 20, 604, 16, 605, 606, 607, 19, 608, 95, 49, 100, 101, 102, 15, 103, 30, 104, 105, 106, 107, 31, 32, 33, 34, 35, 36, 43, 90, 108, 109, 110, 111, 948, 949, 950, 951, 983, 984, 970, 971, 972, 973, 974, 975, 976, 977, 978, 979, 980, 981, 982] (by decide +kernel) (by decide +kernel)) (goodIn_sub (fun _ h => List.mem_append_left _ (List.mem_append_left _ (List.mem_append_right _ h))) (by decide +kernel))
set_option maxRecDepth 20000 in
theorem gL_law_L_undo : GoodIn wsL_law (va_wsS RL 149 yL_undo wsL_undo) := goodIn_app (goodIn_of _ (by decide +kernel)) ggL_law_L_undo
