set_option maxRecDepth 20000 in
theorem ggX4_set_X4_checkRange : GoodIn wsX4_set wsX4_checkRange := goodIn_ca (goodIn_r _ [13, 14, 15] (by decide +kernel) (by decide +kernel)) (goodIn_sub (fun _ h => List.mem_cons_of_mem _ (List.mem_append_right _ h)) (by decide +kernel))
set_option maxRecDepth 20000 in
theorem gX4_set_X4_checkRange : GoodIn wsX4_set (va_wsS RX4 35 yX4_checkRange wsX4_checkRange) := goodIn_app (goodIn_of _ (by decide +kernel)) ggX4_set_X4_checkRange
set_option maxRecDepth 20000 in
theorem ggX4_set_X2_push : GoodIn wsX4_set wsX2_push := goodIn_r _ [20, 21, 22, 23, 24, 25, 19, 26, 27, 28, 29, 30, 31, 32, 33, 34, 35, 36, 37, 38, 39, 40, 41, 42, 43, 44, 45, 46, 47, 48, 66, 67, 53, 54, 55, 56, 57, 58, 59, 60, 61, 62, 63, 64, 65] (by decide +kernel) (by decide +kernel)
set_option maxRecDepth 20000 in
theorem gX4_set_X2_push : GoodIn wsX4_set (wsV RX4 50 RX2 yX2_push wsX2_push) := goodIn_app (goodIn_of _ (by decide +kernel)) ggX4_set_X2_push
theorem dX4_set_0 : decode cX4_set 0 = .ok (.iload_n 1, 1) := by decide +kernel
theorem dX4_set_1 : decode cX4_set 1 = .ok (.invokestatic 94, 3) := by decide +kernel
theorem dX4_set_4 : decode cX4_set 4 = .ok (.iload_n 2, 1) := by decide +kernel
theorem dX4_set_5 : decode cX4_set 5 = .ok (.iconst 0, 1) := by decide +kernel
theorem dX4_set_6 : decode cX4_set 6 = .ok (.getstatic 97, 3) := by decide +kernel
theorem dX4_set_9 : decode cX4_set 9 = .ok (.iload_n 1, 1) := by decide +kernel
theorem dX4_set_10 : decode cX4_set 10 = .ok (.iaload, 1) := by decide +kernel
theorem dX4_set_11 : decode cX4_set 11 = .ok (.invokestatic 35, 3) := by decide +kernel
theorem dX4_set_14 : decode cX4_set 14 = .ok (.aload_n 0, 1) := by decide +kernel
theorem dX4_set_15 : decode cX4_set 15 = .ok (.getfield 19, 3) := by decide +kernel
theorem dX4_set_18 : decode cX4_set 18 = .ok (.aload_n 0, 1) := by decide +kernel
theorem dX4_set_19 : decode cX4_set 19 = .ok (.getfield 12, 3) := by decide +kernel
theorem dX4_set_22 : decode cX4_set 22 = .ok (.invokevirtual 50, 3) := by decide +kernel
theorem dX4_set_25 : decode cX4_set 25 = .ok (.aload_n 0, 1) := by decide +kernel
theorem dX4_set_26 : decode cX4_set 26 = .ok (.getfield 12, 3) := by decide +kernel
theorem dX4_set_29 : decode cX4_set 29 = .ok (.getfield 100, 3) := by decide +kernel
theorem dX4_set_32 : decode cX4_set 32 = .ok (.iload_n 1, 1) := by decide +kernel
theorem dX4_set_33 : decode cX4_set 33 = .ok (.iaload, 1) := by decide +kernel
theorem dX4_set_34 : decode cX4_set 34 = .ok (.istore_n 3, 1) := by decide +kernel
theorem dX4_set_35 : decode cX4_set 35 = .ok (.aload_n 0, 1) := by decide +kernel
theorem dX4_set_36 : decode cX4_set 36 = .ok (.getfield 12, 3) := by decide +kernel
theorem dX4_set_39 : decode cX4_set 39 = .ok (.getfield 100, 3) := by decide +kernel
theorem dX4_set_42 : decode cX4_set 42 = .ok (.iload_n 1, 1) := by decide +kernel
theorem dX4_set_43 : decode cX4_set 43 = .ok (.iload_n 2, 1) := by decide +kernel
theorem dX4_set_44 : decode cX4_set 44 = .ok (.iastore, 1) := by decide +kernel
theorem dX4_set_45 : decode cX4_set 45 = .ok (.iload_n 3, 1) := by decide +kernel
theorem dX4_set_46 : decode cX4_set 46 = .ok (.ireturn, 1) := by decide +kernel
set_option maxRecDepth 20000 in
theorem ggX4_wring_X4_checkStack : GoodIn wsX4_wring wsX4_checkStack := goodIn_ca (goodIn_r _ [6, 7, 8] (by decide +kernel) (by decide +kernel)) (goodIn_sub (fun _ h => List.mem_cons_of_mem _ (List.mem_append_right _ h)) (by decide +kernel))
set_option maxRecDepth 20000 in
theorem gX4_wring_X4_checkStack : GoodIn wsX4_wring (va_wsS RX4 103 yX4_checkStack wsX4_checkStack) := goodIn_app (goodIn_of _ (by decide +kernel)) ggX4_wring_X4_checkStack
set_option maxRecDepth 20000 in
theorem ggX4_wring_X4_checkBlock : GoodIn wsX4_wring wsX4_checkBlock := goodIn_ca (goodIn_r _ [12, 7, 8, 2, 13, 14, 15, 16, 17, 18, 112, 113, 114, 115, 116, 117, 118, 119, 120, 121, 122, 123, 124, 125, 126, 127, 128] (by decide +kernel) (by decide +kernel)) (goodIn_sub (fun _ h => List.mem_cons_of_mem _ (List.mem_append_right _ h)) (by decide +kernel))
set_option maxRecDepth 20000 in
theorem gX4_wring_X4_checkBlock : GoodIn wsX4_wring (wsV RX4 58 RX4 yX4_checkBlock wsX4_checkBlock) := goodIn_app (goodIn_of _ (by decide +kernel)) ggX4_wring_X4_checkBlock
set_option maxRecDepth 20000 in
theorem ggX4_wring_X2_push : GoodIn wsX4_wring wsX2_push := goodIn_r _ [23, 24, 25, 26, 27, 28, 22, 29, 30, 31, 32, 16, 33, 34, 35, 36, 37, 38, 39, 40, 41, 42, 43, 44, 45, 18, 46, 47, 48, 49, 129, 130, 116, 117, 118, 119, 120, 121, 122, 123, 124, 125, 126, 127, 128] (by decide +kernel) (by decide +kernel)
set_option maxRecDepth 20000 in
theorem gX4_wring_X2_push : GoodIn wsX4_wring (wsV RX4 50 RX2 yX2_push wsX2_push) := goodIn_app (goodIn_of _ (by decide +kernel)) ggX4_wring_X2_push
set_option maxRecDepth 20000 in
theorem ggX4_wring_X3_tryToWring : GoodIn wsX4_wring wsX3_tryToWring := goodIn_r _ [53, 49, 54, 55, 56, 16, 57, 41, 45, 58, 59, 60, 61, 42, 62, 63, 64, 65, 66, 67, 68, 69, 18, 70, 71, 72, 73, 74, 75, 76, 77, 78, 79, 80, 81, 82, 83, 84, 85, 86, 87, 88, 89, 90, 91, 92, 39, 40, 93, 94, 95, 96, 43, 44, 47, 97, 98, 99, 100, 101, 102, 103, 104, 105, 106, 107, 108, 109, 110, 111, 116, 117, 118, 119, 120, 121, 122, 123, 124, 125, 126, 127, 128] (by decide +kernel) (by decide +kernel)
set_option maxRecDepth 20000 in
theorem gX4_wring_X3_tryToWring : GoodIn wsX4_wring (wsV RX4 106 RX3 yX3_tryToWring wsX3_tryToWring) := goodIn_app (goodIn_of _ (by decide +kernel)) ggX4_wring_X3_tryToWring
theorem dX4_wring_0 : decode cX4_wring 0 = .ok (.iload_n 1, 1) := by decide +kernel
theorem dX4_wring_1 : decode cX4_wring 1 = .ok (.invokestatic 103, 3) := by decide +kernel
theorem dX4_wring_4 : decode cX4_wring 4 = .ok (.aload_n 0, 1) := by decide +kernel
theorem dX4_wring_5 : decode cX4_wring 5 = .ok (.iload_n 2, 1) := by decide +kernel
theorem dX4_wring_6 : decode cX4_wring 6 = .ok (.invokevirtual 58, 3) := by decide +kernel
theorem dX4_wring_9 : decode cX4_wring 9 = .ok (.aload_n 0, 1) := by decide +kernel
theorem dX4_wring_10 : decode cX4_wring 10 = .ok (.getfield 19, 3) := by decide +kernel
theorem dX4_wring_13 : decode cX4_wring 13 = .ok (.aload_n 0, 1) := by decide +kernel
theorem dX4_wring_14 : decode cX4_wring 14 = .ok (.getfield 12, 3) := by decide +kernel
theorem dX4_wring_17 : decode cX4_wring 17 = .ok (.invokevirtual 50, 3) := by decide +kernel
theorem dX4_wring_20 : decode cX4_wring 20 = .ok (.aload_n 0, 1) := by decide +kernel
theorem dX4_wring_21 : decode cX4_wring 21 = .ok (.getfield 12, 3) := by decide +kernel
theorem dX4_wring_24 : decode cX4_wring 24 = .ok (.iload_n 1, 1) := by decide +kernel
theorem dX4_wring_25 : decode cX4_wring 25 = .ok (.iload_n 2, 1) := by decide +kernel
theorem dX4_wring_26 : decode cX4_wring 26 = .ok (.invokevirtual 106, 3) := by decide +kernel
theorem dX4_wring_29 : decode cX4_wring 29 = .ok (.ireturn, 1) := by decide +kernel
set_option maxRecDepth 20000 in
theorem ggX4_takeOff_X4_checkStack : GoodIn wsX4_takeOff wsX4_checkStack := goodIn_ca (goodIn_r _ [8, 9, 10] (by decide +kernel) (by decide +kernel)) (goodIn_sub (fun _ h => List.mem_cons_of_mem _ (List.mem_append_right _ h)) (by decide +kernel))
set_option maxRecDepth 20000 in
theorem gX4_takeOff_X4_checkStack : GoodIn wsX4_takeOff (va_wsS RX4 103 yX4_checkStack wsX4_checkStack) := goodIn_app (goodIn_of _ (by decide +kernel)) ggX4_takeOff_X4_checkStack
set_option maxRecDepth 20000 in
theorem ggX4_takeOff_X3_heightOf : GoodIn wsX4_takeOff wsX3_heightOf := goodIn_r _ [15, 16, 17, 18, 14, 19, 20, 21, 22, 23, 24, 25, 26, 27, 28, 84, 85, 86, 87, 88, 89, 90, 91, 92, 93, 94, 95, 96] (by decide +kernel) (by decide +kernel)
set_option maxRecDepth 20000 in
theorem gX4_takeOff_X3_heightOf : GoodIn wsX4_takeOff (wsV RX4 109 RX3 yX3_heightOf wsX3_heightOf) := goodIn_app (goodIn_of _ (by decide +kernel)) ggX4_takeOff_X3_heightOf
set_option maxRecDepth 20000 in
theorem ggX4_takeOff_X2_push : GoodIn wsX4_takeOff wsX2_push := goodIn_r _ [33, 34, 35, 36, 37, 38, 32, 39, 40, 41, 42, 14, 43, 44, 45, 46, 47, 48, 49, 50, 51, 21, 52, 53, 54, 20, 55, 56, 57, 58, 97, 98, 84, 85, 86, 87, 88, 89, 90, 91, 92, 93, 94, 95, 96] (by decide +kernel) (by decide +kernel)
set_option maxRecDepth 20000 in
theorem gX4_takeOff_X2_push : GoodIn wsX4_takeOff (wsV RX4 50 RX2 yX2_push wsX2_push) := goodIn_app (goodIn_of _ (by decide +kernel)) ggX4_takeOff_X2_push
set_option maxRecDepth 20000 in
theorem ggX4_takeOff_X3_takeTopOff : GoodIn wsX4_takeOff wsX3_takeTopOff := goodIn_r _ [62, 21, 52, 57, 63, 12, 13, 14, 15, 16, 17, 18, 19, 20, 22, 23, 24, 25, 26, 27, 28, 64, 65, 66, 67, 68, 69, 70, 71, 54, 50, 72, 73, 74, 75, 51, 76, 77, 78, 79, 84, 85, 86, 87, 88, 89, 90, 91, 92, 93, 94, 95, 96] (by decide +kernel) (by decide +kernel)
set_option maxRecDepth 20000 in
theorem gX4_takeOff_X3_takeTopOff : GoodIn wsX4_takeOff (wsV RX4 114 RX3 yX3_takeTopOff wsX3_takeTopOff) := goodIn_app (goodIn_of _ (by decide +kernel)) ggX4_takeOff_X3_takeTopOff
theorem dX4_takeOff_0 : decode cX4_takeOff 0 = .ok (.iload_n 1, 1) := by decide +kernel
theorem dX4_takeOff_1 : decode cX4_takeOff 1 = .ok (.invokestatic 103, 3) := by decide +kernel
theorem dX4_takeOff_4 : decode cX4_takeOff 4 = .ok (.aload_n 0, 1) := by decide +kernel
theorem dX4_takeOff_5 : decode cX4_takeOff 5 = .ok (.getfield 12, 3) := by decide +kernel
theorem dX4_takeOff_8 : decode cX4_takeOff 8 = .ok (.iload_n 1, 1) := by decide +kernel
theorem dX4_takeOff_9 : decode cX4_takeOff 9 = .ok (.invokevirtual 109, 3) := by decide +kernel
theorem dX4_takeOff_12 : decode cX4_takeOff 12 = .ok (.ifCond .ne 13, 3) := by decide +kernel
theorem dX4_takeOff_15 : decode cX4_takeOff 15 = .ok (.new 43, 3) := by decide +kernel
theorem dX4_takeOff_18 : decode cX4_takeOff 18 = .ok (.dup, 1) := by decide +kernel
theorem dX4_takeOff_19 : decode cX4_takeOff 19 = .ok (.ldc 112, 2) := by decide +kernel
theorem dX4_takeOff_21 : decode cX4_takeOff 21 = .ok (.invokespecial 47, 3) := by decide +kernel
theorem dX4_takeOff_24 : decode cX4_takeOff 24 = .ok (.athrow, 1) := by decide +kernel
theorem dX4_takeOff_25 : decode cX4_takeOff 25 = .ok (.aload_n 0, 1) := by decide +kernel
theorem dX4_takeOff_26 : decode cX4_takeOff 26 = .ok (.getfield 19, 3) := by decide +kernel
theorem dX4_takeOff_29 : decode cX4_takeOff 29 = .ok (.aload_n 0, 1) := by decide +kernel
theorem dX4_takeOff_30 : decode cX4_takeOff 30 = .ok (.getfield 12, 3) := by decide +kernel
theorem dX4_takeOff_33 : decode cX4_takeOff 33 = .ok (.invokevirtual 50, 3) := by decide +kernel
theorem dX4_takeOff_36 : decode cX4_takeOff 36 = .ok (.aload_n 0, 1) := by decide +kernel
theorem dX4_takeOff_37 : decode cX4_takeOff 37 = .ok (.getfield 12, 3) := by decide +kernel
theorem dX4_takeOff_40 : decode cX4_takeOff 40 = .ok (.iload_n 1, 1) := by decide +kernel
theorem dX4_takeOff_41 : decode cX4_takeOff 41 = .ok (.invokevirtual 114, 3) := by decide +kernel
theorem dX4_takeOff_44 : decode cX4_takeOff 44 = .ok (.ireturn, 1) := by decide +kernel
set_option maxRecDepth 20000 in
theorem ggX4_make_X4_checkStack : GoodIn wsX4_make wsX4_checkStack := goodIn_ca (goodIn_r _ [8, 9, 10] (by decide +kernel) (by decide +kernel)) (goodIn_sub (fun _ h => List.mem_cons_of_mem _ (List.mem_append_left _ (List.mem_append_right _ h))) (by decide +kernel))
set_option maxRecDepth 20000 in
theorem gX4_make_X4_checkStack : GoodIn wsX4_make (va_wsS RX4 103 yX4_checkStack wsX4_checkStack) := goodIn_app (goodIn_of _ (by decide +kernel)) ggX4_make_X4_checkStack
set_option maxRecDepth 20000 in
theorem ggX4_make_X4_checkLength : GoodIn wsX4_make wsX4_checkLength := goodIn_ca (goodIn_r _ [13, 14, 15, 16, 7, 17, 18, 19] (by decide +kernel) (by decide +kernel)) (goodIn_sub (fun _ h => List.mem_cons_of_mem _ (List.mem_append_right _ h)) (by decide +kernel))
set_option maxRecDepth 20000 in
theorem gX4_make_X4_checkLength : GoodIn wsX4_make (va_wsS RX4 117 yX4_checkLength wsX4_checkLength) := goodIn_app (goodIn_of _ (by decide +kernel)) ggX4_make_X4_checkLength
set_option maxRecDepth 20000 in
theorem ggX4_make_X3_heightOf : GoodIn wsX4_make wsX3_heightOf := goodIn_r _ [24, 25, 26, 27, 23, 28, 29, 30, 31, 32, 33, 34, 35, 36, 37, 134, 135, 136, 137, 138, 139, 140, 141, 142, 143, 144, 145, 146] (by decide +kernel) (by decide +kernel)
set_option maxRecDepth 20000 in
theorem gX4_make_X3_heightOf : GoodIn wsX4_make (wsV RX4 109 RX3 yX3_heightOf wsX3_heightOf) := goodIn_app (goodIn_of _ (by decide +kernel)) ggX4_make_X3_heightOf
set_option maxRecDepth 20000 in
theorem ggX4_make_X2_push : GoodIn wsX4_make wsX2_push := goodIn_r _ [42, 43, 44, 45, 46, 47, 41, 48, 49, 50, 51, 23, 52, 53, 54, 55, 56, 57, 58, 59, 60, 30, 61, 62, 63, 29, 64, 65, 66, 67, 147, 148, 134, 135, 136, 137, 138, 139, 140, 141, 142, 143, 144, 145, 146] (by decide +kernel) (by decide +kernel)
set_option maxRecDepth 20000 in
theorem gX4_make_X2_push : GoodIn wsX4_make (wsV RX4 50 RX2 yX2_push wsX2_push) := goodIn_app (goodIn_of _ (by decide +kernel)) ggX4_make_X2_push
set_option maxRecDepth 20000 in
theorem ggX4_make_X0_fewestFor : GoodIn wsX4_make wsX0_fewestFor := goodIn_r _ [71, 72, 73, 26, 27, 23, 28, 29, 30, 74, 75, 70, 76, 77, 134, 135, 136, 137, 138, 139, 140, 141, 142, 143, 144, 145, 146] (by decide +kernel) (by decide +kernel)
set_option maxRecDepth 20000 in
theorem gX4_make_X0_fewestFor : GoodIn wsX4_make (va_wsS RX4 122 yX0_fewestFor wsX0_fewestFor) := goodIn_app (goodIn_of _ (by decide +kernel)) ggX4_make_X0_fewestFor
set_option maxRecDepth 20000 in
theorem ggX4_make_X3_wringSet : GoodIn wsX4_make wsX3_wringSet := goodIn_r _ [81, 29, 82, 83, 84, 23, 85, 67, 86, 87, 88, 89, 60, 63, 90, 91, 92, 93, 30, 94, 21, 22, 24, 25, 26, 27, 28, 31, 32, 33, 34, 35, 36, 37, 95, 96, 97, 98, 99, 100, 101, 102, 103, 104, 105, 106, 107, 108, 109, 110, 58, 59, 111, 112, 113, 114, 61, 62, 65, 115, 116, 117, 118, 119, 120, 121, 122, 123, 124, 125, 126, 127, 128, 129, 134, 135, 136, 137, 138, 139, 140, 141, 142, 143, 144, 145, 146] (by decide +kernel) (by decide +kernel)
set_option maxRecDepth 20000 in
theorem gX4_make_X3_wringSet : GoodIn wsX4_make (wsV RX4 128 RX3 yX3_wringSet wsX3_wringSet) := goodIn_app (goodIn_of _ (by decide +kernel)) ggX4_make_X3_wringSet
theorem dX4_make_0 : decode cX4_make 0 = .ok (.iload_n 1, 1) := by decide +kernel
theorem dX4_make_1 : decode cX4_make 1 = .ok (.invokestatic 103, 3) := by decide +kernel
theorem dX4_make_4 : decode cX4_make 4 = .ok (.iload_n 2, 1) := by decide +kernel
theorem dX4_make_5 : decode cX4_make 5 = .ok (.invokestatic 117, 3) := by decide +kernel
theorem dX4_make_8 : decode cX4_make 8 = .ok (.aload_n 0, 1) := by decide +kernel
theorem dX4_make_9 : decode cX4_make 9 = .ok (.getfield 12, 3) := by decide +kernel
theorem dX4_make_12 : decode cX4_make 12 = .ok (.iload_n 1, 1) := by decide +kernel
theorem dX4_make_13 : decode cX4_make 13 = .ok (.invokevirtual 109, 3) := by decide +kernel
theorem dX4_make_16 : decode cX4_make 16 = .ok (.ifCond .eq 13, 3) := by decide +kernel
theorem dX4_make_19 : decode cX4_make 19 = .ok (.new 43, 3) := by decide +kernel
theorem dX4_make_22 : decode cX4_make 22 = .ok (.dup, 1) := by decide +kernel
theorem dX4_make_23 : decode cX4_make 23 = .ok (.ldc 120, 2) := by decide +kernel
theorem dX4_make_25 : decode cX4_make 25 = .ok (.invokespecial 47, 3) := by decide +kernel
theorem dX4_make_28 : decode cX4_make 28 = .ok (.athrow, 1) := by decide +kernel
theorem dX4_make_29 : decode cX4_make 29 = .ok (.aload_n 0, 1) := by decide +kernel
theorem dX4_make_30 : decode cX4_make 30 = .ok (.getfield 19, 3) := by decide +kernel
theorem dX4_make_33 : decode cX4_make 33 = .ok (.aload_n 0, 1) := by decide +kernel
theorem dX4_make_34 : decode cX4_make 34 = .ok (.getfield 12, 3) := by decide +kernel
theorem dX4_make_37 : decode cX4_make 37 = .ok (.invokevirtual 50, 3) := by decide +kernel
theorem dX4_make_40 : decode cX4_make 40 = .ok (.aload_n 0, 1) := by decide +kernel
theorem dX4_make_41 : decode cX4_make 41 = .ok (.getfield 12, 3) := by decide +kernel
theorem dX4_make_44 : decode cX4_make 44 = .ok (.iload_n 2, 1) := by decide +kernel
theorem dX4_make_45 : decode cX4_make 45 = .ok (.invokestatic 122, 3) := by decide +kernel
theorem dX4_make_48 : decode cX4_make 48 = .ok (.istore_n 3, 1) := by decide +kernel
theorem dX4_make_49 : decode cX4_make 49 = .ok (.iload_n 3, 1) := by decide +kernel
theorem dX4_make_50 : decode cX4_make 50 = .ok (.ifCond .ne 7, 3) := by decide +kernel
theorem dX4_make_53 : decode cX4_make 53 = .ok (.iconst (-1), 1) := by decide +kernel
theorem dX4_make_54 : decode cX4_make 54 = .ok (.goto 12, 3) := by decide +kernel
theorem dX4_make_57 : decode cX4_make 57 = .ok (.aload_n 0, 1) := by decide +kernel
theorem dX4_make_58 : decode cX4_make 58 = .ok (.getfield 12, 3) := by decide +kernel
theorem dX4_make_61 : decode cX4_make 61 = .ok (.iload_n 1, 1) := by decide +kernel
theorem dX4_make_62 : decode cX4_make 62 = .ok (.iload_n 3, 1) := by decide +kernel
theorem dX4_make_63 : decode cX4_make 63 = .ok (.invokevirtual 128, 3) := by decide +kernel
theorem dX4_make_66 : decode cX4_make 66 = .ok (.ireturn, 1) := by decide +kernel
set_option maxRecDepth 20000 in
theorem ggX4_append_X4_checkRange : GoodIn wsX4_append wsX4_checkRange := goodIn_ca (goodIn_r _ [8, 9, 10] (by decide +kernel) (by decide +kernel)) (goodIn_sub (fun _ h => List.mem_cons_of_mem _ (List.mem_append_right _ h)) (by decide +kernel))
set_option maxRecDepth 20000 in
theorem gX4_append_X4_checkRange : GoodIn wsX4_append (va_wsS RX4 35 yX4_checkRange wsX4_checkRange) := goodIn_app (goodIn_of _ (by decide +kernel)) ggX4_append_X4_checkRange
set_option maxRecDepth 20000 in
theorem ggX4_append_X1_addSign : GoodIn wsX4_append wsX1_addSign := goodIn_r _ [15, 16, 17, 22, 23, 24, 25, 26, 27] (by decide +kernel) (by decide +kernel)
set_option maxRecDepth 20000 in
theorem gX4_append_X1_addSign : GoodIn wsX4_append (wsV RX4 136 RX1 yX1_addSign wsX1_addSign) := goodIn_app (goodIn_of _ (by decide +kernel)) ggX4_append_X1_addSign
theorem dX4_append_0 : decode cX4_append 0 = .ok (.iload_n 1, 1) := by decide +kernel
theorem dX4_append_1 : decode cX4_append 1 = .ok (.bipush 33, 2) := by decide +kernel
theorem dX4_append_3 : decode cX4_append 3 = .ok (.bipush 126, 2) := by decide +kernel
theorem dX4_append_5 : decode cX4_append 5 = .ok (.invokestatic 35, 3) := by decide +kernel
theorem dX4_append_8 : decode cX4_append 8 = .ok (.aload_n 0, 1) := by decide +kernel
theorem dX4_append_9 : decode cX4_append 9 = .ok (.getfield 30, 3) := by decide +kernel
theorem dX4_append_12 : decode cX4_append 12 = .ok (.getfield 131, 3) := by decide +kernel
theorem dX4_append_15 : decode cX4_append 15 = .ok (.bipush 60, 2) := by decide +kernel
theorem dX4_append_17 : decode cX4_append 17 = .ok (.if_icmp .lt 13, 3) := by decide +kernel
theorem dX4_append_20 : decode cX4_append 20 = .ok (.new 43, 3) := by decide +kernel
theorem dX4_append_23 : decode cX4_append 23 = .ok (.dup, 1) := by decide +kernel
theorem dX4_append_24 : decode cX4_append 24 = .ok (.ldc 134, 2) := by decide +kernel
theorem dX4_append_26 : decode cX4_append 26 = .ok (.invokespecial 47, 3) := by decide +kernel
theorem dX4_append_29 : decode cX4_append 29 = .ok (.athrow, 1) := by decide +kernel
theorem dX4_append_30 : decode cX4_append 30 = .ok (.aload_n 0, 1) := by decide +kernel
theorem dX4_append_31 : decode cX4_append 31 = .ok (.getfield 30, 3) := by decide +kernel
theorem dX4_append_34 : decode cX4_append 34 = .ok (.iload_n 1, 1) := by decide +kernel
theorem dX4_append_35 : decode cX4_append 35 = .ok (.invokevirtual 136, 3) := by decide +kernel
theorem dX4_append_38 : decode cX4_append 38 = .ok (.aload_n 0, 1) := by decide +kernel
theorem dX4_append_39 : decode cX4_append 39 = .ok (.getfield 30, 3) := by decide +kernel
theorem dX4_append_42 : decode cX4_append 42 = .ok (.getfield 131, 3) := by decide +kernel
theorem dX4_append_45 : decode cX4_append 45 = .ok (.ireturn, 1) := by decide +kernel
theorem dX4_clearBuffer_0 : decode cX4_clearBuffer 0 = .ok (.aload_n 0, 1) := by decide +kernel
theorem dX4_clearBuffer_1 : decode cX4_clearBuffer 1 = .ok (.getfield 30, 3) := by decide +kernel
theorem dX4_clearBuffer_4 : decode cX4_clearBuffer 4 = .ok (.getfield 131, 3) := by decide +kernel
theorem dX4_clearBuffer_7 : decode cX4_clearBuffer 7 = .ok (.istore_n 1, 1) := by decide +kernel
theorem dX4_clearBuffer_8 : decode cX4_clearBuffer 8 = .ok (.aload_n 0, 1) := by decide +kernel
theorem dX4_clearBuffer_9 : decode cX4_clearBuffer 9 = .ok (.getfield 30, 3) := by decide +kernel
theorem dX4_clearBuffer_12 : decode cX4_clearBuffer 12 = .ok (.iconst 0, 1) := by decide +kernel
theorem dX4_clearBuffer_13 : decode cX4_clearBuffer 13 = .ok (.putfield 131, 3) := by decide +kernel
theorem dX4_clearBuffer_16 : decode cX4_clearBuffer 16 = .ok (.iload_n 1, 1) := by decide +kernel
theorem dX4_clearBuffer_17 : decode cX4_clearBuffer 17 = .ok (.ireturn, 1) := by decide +kernel
set_option maxRecDepth 20000 in
theorem ggX4_firstError_X1_readAll : GoodIn wsX4_firstError wsX1_readAll := goodIn_r _ [7, 8, 9, 10, 11, 6, 12, 13, 14, 15, 16, 17, 18, 19, 20, 21, 22, 23, 24, 25, 26, 27, 28, 29, 30, 31, 32, 33, 34, 35, 36, 37, 38, 39, 40, 41, 42, 43, 44, 45, 46, 47, 48, 53, 54, 55, 56, 57, 58] (by decide +kernel) (by decide +kernel)
set_option maxRecDepth 20000 in
theorem gX4_firstError_X1_readAll : GoodIn wsX4_firstError (wsV RX4 139 RX1 yX1_readAll wsX1_readAll) := goodIn_app (goodIn_of _ (by decide +kernel)) ggX4_firstError_X1_readAll
theorem dX4_firstError_0 : decode cX4_firstError 0 = .ok (.aload_n 0, 1) := by decide +kernel
theorem dX4_firstError_1 : decode cX4_firstError 1 = .ok (.getfield 30, 3) := by decide +kernel
theorem dX4_firstError_4 : decode cX4_firstError 4 = .ok (.invokevirtual 139, 3) := by decide +kernel
theorem dX4_firstError_7 : decode cX4_firstError 7 = .ok (.pop, 1) := by decide +kernel
theorem dX4_firstError_8 : decode cX4_firstError 8 = .ok (.aload_n 0, 1) := by decide +kernel
theorem dX4_firstError_9 : decode cX4_firstError 9 = .ok (.getfield 30, 3) := by decide +kernel
theorem dX4_firstError_12 : decode cX4_firstError 12 = .ok (.getfield 142, 3) := by decide +kernel
theorem dX4_firstError_15 : decode cX4_firstError 15 = .ok (.ireturn, 1) := by decide +kernel
set_option maxRecDepth 20000 in
theorem ggX4_execute_X1_readAll : GoodIn wsX4_execute wsX1_readAll := goodIn_r _ [15, 16, 17, 18, 19, 14, 20, 21, 22, 23, 24, 25, 26, 27, 28, 29, 30, 31, 32, 33, 34, 35, 36, 37, 38, 39, 40, 41, 42, 43, 44, 45, 46, 47, 48, 49, 50, 51, 52, 53, 54, 55, 56, 184, 185, 186, 187, 188, 189] (by decide +kernel) (by decide +kernel)
set_option maxRecDepth 20000 in
theorem gX4_execute_X1_readAll : GoodIn wsX4_execute (wsV RX4 139 RX1 yX1_readAll wsX1_readAll) := goodIn_app (goodIn_of _ (by decide +kernel)) ggX4_execute_X1_readAll
set_option maxRecDepth 20000 in
theorem ggX4_execute_X2_push : GoodIn wsX4_execute wsX2_push := goodIn_r _ [61, 62, 63, 64, 65, 66, 60, 67, 68, 69, 70, 71, 72, 73, 74, 75, 76, 77, 78, 79, 80, 81, 82, 83, 84, 85, 86, 87, 88, 89, 190, 191, 192, 193, 194, 195, 196, 197, 198, 199, 200, 201, 202, 203, 204] (by decide +kernel) (by decide +kernel)
set_option maxRecDepth 20000 in
theorem gX4_execute_X2_push : GoodIn wsX4_execute (wsV RX4 50 RX2 yX2_push wsX2_push) := goodIn_app (goodIn_of _ (by decide +kernel)) ggX4_execute_X2_push
set_option maxRecDepth 20000 in
theorem ggX4_execute_X1_readOrder : GoodIn wsX4_execute wsX1_readOrder := goodIn_r _ [20, 21, 16, 22, 23, 24, 25, 26, 14, 27, 28, 29, 30, 31, 32, 33, 34, 35, 36, 37, 38, 39, 40, 41, 42, 43, 44, 45, 46, 47, 48, 49, 50, 51, 52, 53, 54, 55, 56, 184, 185, 186, 187, 188, 189] (by decide +kernel) (by decide +kernel)
set_option maxRecDepth 20000 in
theorem gX4_execute_X1_readOrder : GoodIn wsX4_execute (wsV RX4 150 RX1 yX1_readOrder wsX1_readOrder) := goodIn_app (goodIn_of _ (by decide +kernel)) ggX4_execute_X1_readOrder
set_option maxRecDepth 20000 in
theorem ggX4_execute_X4_carryOut : GoodIn wsX4_execute wsX4_carryOut := goodIn_r _ [95, 5, 96, 97, 98, 71, 99, 85, 73, 78, 79, 80, 81, 82, 83, 100, 101, 102, 103, 104, 105, 106, 107, 108, 109, 110, 111, 89, 112, 113, 114, 115, 84, 116, 117, 118, 119, 120, 121, 122, 123, 124, 125, 126, 127, 128, 129, 130, 131, 132, 133, 134, 135, 136, 137, 138, 139, 140, 141, 142, 143, 144, 50, 145, 146, 147, 148, 149, 150, 151, 152, 153, 87, 154, 155, 156, 157, 158, 159, 160, 161, 162, 163, 164, 165, 166, 49, 51, 167, 168, 169, 170, 88, 171, 172, 173, 174, 175, 86, 176, 177, 178, 180, 181, 182, 183, 192, 193, 194, 195, 196, 197, 198, 199, 200, 201, 202, 203, 204] (by decide +kernel) (by decide +kernel)
set_option maxRecDepth 20000 in
theorem gX4_execute_X4_carryOut : GoodIn wsX4_execute (wsV RX4 162 RX4 yX4_carryOut wsX4_carryOut) := goodIn_app (goodIn_of _ (by decide +kernel)) ggX4_execute_X4_carryOut
set_option maxRecDepth 20000 in
theorem ggX4_execute_X1_readSign : GoodIn wsX4_execute wsX1_readSign := goodIn_r _ [32, 21, 16, 24, 25, 26, 14, 27, 28, 184, 185, 186, 187, 188, 189] (by decide +kernel) (by decide +kernel)
set_option maxRecDepth 20000 in
theorem gX4_execute_X1_readSign : GoodIn wsX4_execute (wsV RX4 166 RX1 yX1_readSign wsX1_readSign) := goodIn_app (goodIn_of _ (by decide +kernel)) ggX4_execute_X1_readSign
theorem dX4_execute_0 : decode cX4_execute 0 = .ok (.aload_n 0, 1) := by decide +kernel
theorem dX4_execute_1 : decode cX4_execute 1 = .ok (.getfield 30, 3) := by decide +kernel
theorem dX4_execute_4 : decode cX4_execute 4 = .ok (.invokevirtual 139, 3) := by decide +kernel
theorem dX4_execute_7 : decode cX4_execute 7 = .ok (.ifCond .ne 13, 3) := by decide +kernel
theorem dX4_execute_10 : decode cX4_execute 10 = .ok (.new 145, 3) := by decide +kernel
theorem dX4_execute_13 : decode cX4_execute 13 = .ok (.dup, 1) := by decide +kernel
theorem dX4_execute_14 : decode cX4_execute 14 = .ok (.ldc 147, 2) := by decide +kernel
theorem dX4_execute_16 : decode cX4_execute 16 = .ok (.invokespecial 149, 3) := by decide +kernel
theorem dX4_execute_19 : decode cX4_execute 19 = .ok (.athrow, 1) := by decide +kernel
theorem dX4_execute_20 : decode cX4_execute 20 = .ok (.aload_n 0, 1) := by decide +kernel
theorem dX4_execute_21 : decode cX4_execute 21 = .ok (.getfield 19, 3) := by decide +kernel
theorem dX4_execute_24 : decode cX4_execute 24 = .ok (.aload_n 0, 1) := by decide +kernel
theorem dX4_execute_25 : decode cX4_execute 25 = .ok (.getfield 12, 3) := by decide +kernel
theorem dX4_execute_28 : decode cX4_execute 28 = .ok (.invokevirtual 50, 3) := by decide +kernel
theorem dX4_execute_31 : decode cX4_execute 31 = .ok (.iconst 0, 1) := by decide +kernel
theorem dX4_execute_32 : decode cX4_execute 32 = .ok (.istore_n 1, 1) := by decide +kernel
theorem dX4_execute_33 : decode cX4_execute 33 = .ok (.aload_n 0, 1) := by decide +kernel
theorem dX4_execute_34 : decode cX4_execute 34 = .ok (.getfield 30, 3) := by decide +kernel
theorem dX4_execute_37 : decode cX4_execute 37 = .ok (.iconst 0, 1) := by decide +kernel
theorem dX4_execute_38 : decode cX4_execute 38 = .ok (.putfield 142, 3) := by decide +kernel
theorem dX4_execute_41 : decode cX4_execute 41 = .ok (.iload_n 1, 1) := by decide +kernel
theorem dX4_execute_42 : decode cX4_execute 42 = .ok (.bipush 60, 2) := by decide +kernel
theorem dX4_execute_44 : decode cX4_execute 44 = .ok (.if_icmp .ge 57, 3) := by decide +kernel
theorem dX4_execute_47 : decode cX4_execute 47 = .ok (.aload_n 0, 1) := by decide +kernel
theorem dX4_execute_48 : decode cX4_execute 48 = .ok (.getfield 30, 3) := by decide +kernel
theorem dX4_execute_51 : decode cX4_execute 51 = .ok (.invokevirtual 150, 3) := by decide +kernel
theorem dX4_execute_54 : decode cX4_execute 54 = .ok (.ifCond .eq 47, 3) := by decide +kernel
theorem dX4_execute_57 : decode cX4_execute 57 = .ok (.aload_n 0, 1) := by decide +kernel
theorem dX4_execute_58 : decode cX4_execute 58 = .ok (.aload_n 0, 1) := by decide +kernel
theorem dX4_execute_59 : decode cX4_execute 59 = .ok (.getfield 30, 3) := by decide +kernel
theorem dX4_execute_62 : decode cX4_execute 62 = .ok (.getfield 153, 3) := by decide +kernel
theorem dX4_execute_65 : decode cX4_execute 65 = .ok (.aload_n 0, 1) := by decide +kernel
theorem dX4_execute_66 : decode cX4_execute 66 = .ok (.getfield 30, 3) := by decide +kernel
theorem dX4_execute_69 : decode cX4_execute 69 = .ok (.getfield 156, 3) := by decide +kernel
theorem dX4_execute_72 : decode cX4_execute 72 = .ok (.aload_n 0, 1) := by decide +kernel
theorem dX4_execute_73 : decode cX4_execute 73 = .ok (.getfield 30, 3) := by decide +kernel
theorem dX4_execute_76 : decode cX4_execute 76 = .ok (.getfield 159, 3) := by decide +kernel
theorem dX4_execute_79 : decode cX4_execute 79 = .ok (.invokevirtual 162, 3) := by decide +kernel
theorem dX4_execute_82 : decode cX4_execute 82 = .ok (.ifCond .eq 19, 3) := by decide +kernel
theorem dX4_execute_85 : decode cX4_execute 85 = .ok (.iinc 1 1, 3) := by decide +kernel
theorem dX4_execute_88 : decode cX4_execute 88 = .ok (.aload_n 0, 1) := by decide +kernel
theorem dX4_execute_89 : decode cX4_execute 89 = .ok (.getfield 30, 3) := by decide +kernel
theorem dX4_execute_92 : decode cX4_execute 92 = .ok (.bipush 59, 2) := by decide +kernel
theorem dX4_execute_94 : decode cX4_execute 94 = .ok (.invokevirtual 166, 3) := by decide +kernel
theorem dX4_execute_97 : decode cX4_execute 97 = .ok (.pop, 1) := by decide +kernel
theorem dX4_execute_98 : decode cX4_execute 98 = .ok (.goto (-57), 3) := by decide +kernel
theorem dX4_execute_101 : decode cX4_execute 101 = .ok (.aload_n 0, 1) := by decide +kernel
theorem dX4_execute_102 : decode cX4_execute 102 = .ok (.getfield 30, 3) := by decide +kernel
theorem dX4_execute_105 : decode cX4_execute 105 = .ok (.iconst 0, 1) := by decide +kernel
theorem dX4_execute_106 : decode cX4_execute 106 = .ok (.putfield 131, 3) := by decide +kernel
theorem dX4_execute_109 : decode cX4_execute 109 = .ok (.iload_n 1, 1) := by decide +kernel
theorem dX4_execute_110 : decode cX4_execute 110 = .ok (.ireturn, 1) := by decide +kernel
set_option maxRecDepth 20000 in
theorem ggX4_carryOut_X3_addBlock : GoodIn wsX4_carryOut wsX3_addBlock := goodIn_r _ [6, 7, 8, 9, 10, 11, 12, 13, 14, 15, 16, 17, 5, 18, 106, 107, 108, 109, 110, 111, 112, 113, 114, 115, 116, 117, 118] (by decide +kernel) (by decide +kernel)
set_option maxRecDepth 20000 in
theorem gX4_carryOut_X3_addBlock : GoodIn wsX4_carryOut (wsV RX4 54 RX3 yX3_addBlock wsX3_addBlock) := goodIn_app (goodIn_of _ (by decide +kernel)) ggX4_carryOut_X3_addBlock
set_option maxRecDepth 20000 in
theorem ggX4_carryOut_X3_hasBlock : GoodIn wsX4_carryOut wsX3_hasBlock := goodIn_r _ [22, 7, 106, 107, 108, 109, 110, 111, 112, 113, 114, 115, 116, 117, 118] (by decide +kernel) (by decide +kernel)
set_option maxRecDepth 20000 in
theorem gX4_carryOut_X3_hasBlock : GoodIn wsX4_carryOut (wsV RX4 170 RX3 yX3_hasBlock wsX3_hasBlock) := goodIn_app (goodIn_of _ (by decide +kernel)) ggX4_carryOut_X3_hasBlock
set_option maxRecDepth 20000 in
theorem ggX4_carryOut_X3_tryToWring : GoodIn wsX4_carryOut wsX3_tryToWring := goodIn_r _ [26, 27, 28, 29, 30, 5, 31, 11, 32, 33, 34, 35, 36, 12, 37, 38, 39, 40, 41, 42, 43, 44, 7, 45, 46, 47, 48, 49, 50, 51, 52, 53, 54, 55, 56, 57, 58, 59, 60, 61, 62, 63, 64, 65, 66, 67, 9, 10, 68, 69, 70, 71, 13, 14, 72, 73, 74, 75, 76, 77, 78, 79, 80, 81, 82, 83, 84, 85, 86, 87, 106, 107, 108, 109, 110, 111, 112, 113, 114, 115, 116, 117, 118] (by decide +kernel) (by decide +kernel)
set_option maxRecDepth 20000 in
theorem gX4_carryOut_X3_tryToWring : GoodIn wsX4_carryOut (wsV RX4 106 RX3 yX3_tryToWring wsX3_tryToWring) := goodIn_app (goodIn_of _ (by decide +kernel)) ggX4_carryOut_X3_tryToWring
set_option maxRecDepth 20000 in
theorem ggX4_carryOut_X3_takeTopOff : GoodIn wsX4_carryOut wsX3_takeTopOff := goodIn_r _ [91, 12, 13, 92, 37, 38, 39, 5, 40, 41, 42, 43, 44, 7, 45, 46, 47, 48, 49, 50, 51, 73, 74, 75, 76, 77, 78, 79, 80, 32, 10, 81, 82, 83, 84, 11, 85, 86, 62, 87, 106, 107, 108, 109, 110, 111, 112, 113, 114, 115, 116, 117, 118] (by decide +kernel) (by decide +kernel)
set_option maxRecDepth 20000 in
theorem gX4_carryOut_X3_takeTopOff : GoodIn wsX4_carryOut (wsV RX4 114 RX3 yX3_takeTopOff wsX3_takeTopOff) := goodIn_app (goodIn_of _ (by decide +kernel)) ggX4_carryOut_X3_takeTopOff
set_option maxRecDepth 20000 in
theorem ggX4_carryOut_X3_warm : GoodIn wsX4_carryOut wsX3_warm := goodIn_r _ [84, 11, 85, 86, 62, 87, 106, 107, 108, 109, 110, 111, 112, 113, 114, 115, 116, 117, 118] (by decide +kernel) (by decide +kernel)
set_option maxRecDepth 20000 in
theorem gX4_carryOut_X3_warm : GoodIn wsX4_carryOut (wsV RX4 79 RX3 yX3_warm wsX3_warm) := goodIn_app (goodIn_of _ (by decide +kernel)) ggX4_carryOut_X3_warm
set_option maxRecDepth 20000 in
theorem ggX4_carryOut_X3_letPass : GoodIn wsX4_carryOut wsX3_letPass := goodIn_r _ [97, 7, 11, 98, 99, 100, 5, 101, 106, 107, 108, 109, 110, 111, 112, 113, 114, 115, 116, 117, 118] (by decide +kernel) (by decide +kernel)
set_option maxRecDepth 20000 in
theorem gX4_carryOut_X3_letPass : GoodIn wsX4_carryOut (wsV RX4 87 RX3 yX3_letPass wsX3_letPass) := goodIn_app (goodIn_of _ (by decide +kernel)) ggX4_carryOut_X3_letPass
theorem dX4_carryOut_0 : decode cX4_carryOut 0 = .ok (.iload_n 1, 1) := by decide +kernel
theorem dX4_carryOut_1 : decode cX4_carryOut 1 = .ok (.lookupswitch 153 #[(98, 51), (104, 117), (114, 143), (117, 99), (119, 70)], 51) := by decide +kernel
theorem dX4_carryOut_52 : decode cX4_carryOut 52 = .ok (.aload_n 0, 1) := by decide +kernel
theorem dX4_carryOut_53 : decode cX4_carryOut 53 = .ok (.getfield 12, 3) := by decide +kernel
theorem dX4_carryOut_56 : decode cX4_carryOut 56 = .ok (.iload_n 2, 1) := by decide +kernel
theorem dX4_carryOut_57 : decode cX4_carryOut 57 = .ok (.iconst 0, 1) := by decide +kernel
theorem dX4_carryOut_58 : decode cX4_carryOut 58 = .ok (.invokevirtual 54, 3) := by decide +kernel
theorem dX4_carryOut_61 : decode cX4_carryOut 61 = .ok (.iconst (-1), 1) := by decide +kernel
theorem dX4_carryOut_62 : decode cX4_carryOut 62 = .ok (.if_icmp .eq 7, 3) := by decide +kernel
theorem dX4_carryOut_65 : decode cX4_carryOut 65 = .ok (.iconst 1, 1) := by decide +kernel
theorem dX4_carryOut_66 : decode cX4_carryOut 66 = .ok (.goto 4, 3) := by decide +kernel
theorem dX4_carryOut_69 : decode cX4_carryOut 69 = .ok (.iconst 0, 1) := by decide +kernel
theorem dX4_carryOut_70 : decode cX4_carryOut 70 = .ok (.ireturn, 1) := by decide +kernel
theorem dX4_carryOut_71 : decode cX4_carryOut 71 = .ok (.aload_n 0, 1) := by decide +kernel
theorem dX4_carryOut_72 : decode cX4_carryOut 72 = .ok (.getfield 12, 3) := by decide +kernel
theorem dX4_carryOut_75 : decode cX4_carryOut 75 = .ok (.iload_n 3, 1) := by decide +kernel
theorem dX4_carryOut_76 : decode cX4_carryOut 76 = .ok (.invokevirtual 170, 3) := by decide +kernel
theorem dX4_carryOut_79 : decode cX4_carryOut 79 = .ok (.ifCond .eq 19, 3) := by decide +kernel
theorem dX4_carryOut_82 : decode cX4_carryOut 82 = .ok (.aload_n 0, 1) := by decide +kernel
theorem dX4_carryOut_83 : decode cX4_carryOut 83 = .ok (.getfield 12, 3) := by decide +kernel
theorem dX4_carryOut_86 : decode cX4_carryOut 86 = .ok (.iload_n 2, 1) := by decide +kernel
theorem dX4_carryOut_87 : decode cX4_carryOut 87 = .ok (.iload_n 3, 1) := by decide +kernel
theorem dX4_carryOut_88 : decode cX4_carryOut 88 = .ok (.invokevirtual 106, 3) := by decide +kernel
theorem dX4_carryOut_91 : decode cX4_carryOut 91 = .ok (.ifCond .ne 7, 3) := by decide +kernel
theorem dX4_carryOut_94 : decode cX4_carryOut 94 = .ok (.iconst 1, 1) := by decide +kernel
theorem dX4_carryOut_95 : decode cX4_carryOut 95 = .ok (.goto 4, 3) := by decide +kernel
theorem dX4_carryOut_98 : decode cX4_carryOut 98 = .ok (.iconst 0, 1) := by decide +kernel
theorem dX4_carryOut_99 : decode cX4_carryOut 99 = .ok (.ireturn, 1) := by decide +kernel
theorem dX4_carryOut_100 : decode cX4_carryOut 100 = .ok (.aload_n 0, 1) := by decide +kernel
theorem dX4_carryOut_101 : decode cX4_carryOut 101 = .ok (.getfield 12, 3) := by decide +kernel
theorem dX4_carryOut_104 : decode cX4_carryOut 104 = .ok (.iload_n 2, 1) := by decide +kernel
theorem dX4_carryOut_105 : decode cX4_carryOut 105 = .ok (.invokevirtual 114, 3) := by decide +kernel
theorem dX4_carryOut_108 : decode cX4_carryOut 108 = .ok (.iconst (-1), 1) := by decide +kernel
theorem dX4_carryOut_109 : decode cX4_carryOut 109 = .ok (.if_icmp .eq 7, 3) := by decide +kernel
theorem dX4_carryOut_112 : decode cX4_carryOut 112 = .ok (.iconst 1, 1) := by decide +kernel
theorem dX4_carryOut_113 : decode cX4_carryOut 113 = .ok (.goto 4, 3) := by decide +kernel
theorem dX4_carryOut_116 : decode cX4_carryOut 116 = .ok (.iconst 0, 1) := by decide +kernel
theorem dX4_carryOut_117 : decode cX4_carryOut 117 = .ok (.ireturn, 1) := by decide +kernel
theorem dX4_carryOut_118 : decode cX4_carryOut 118 = .ok (.aload_n 0, 1) := by decide +kernel
theorem dX4_carryOut_119 : decode cX4_carryOut 119 = .ok (.getfield 12, 3) := by decide +kernel
theorem dX4_carryOut_122 : decode cX4_carryOut 122 = .ok (.iload_n 2, 1) := by decide +kernel
theorem dX4_carryOut_123 : decode cX4_carryOut 123 = .ok (.invokevirtual 170, 3) := by decide +kernel
theorem dX4_carryOut_126 : decode cX4_carryOut 126 = .ok (.ifCond .ne 5, 3) := by decide +kernel
theorem dX4_carryOut_129 : decode cX4_carryOut 129 = .ok (.iconst 0, 1) := by decide +kernel
theorem dX4_carryOut_130 : decode cX4_carryOut 130 = .ok (.ireturn, 1) := by decide +kernel
theorem dX4_carryOut_131 : decode cX4_carryOut 131 = .ok (.aload_n 0, 1) := by decide +kernel
theorem dX4_carryOut_132 : decode cX4_carryOut 132 = .ok (.getfield 12, 3) := by decide +kernel
theorem dX4_carryOut_135 : decode cX4_carryOut 135 = .ok (.iload_n 2, 1) := by decide +kernel
theorem dX4_carryOut_136 : decode cX4_carryOut 136 = .ok (.iload_n 3, 1) := by decide +kernel
theorem dX4_carryOut_137 : decode cX4_carryOut 137 = .ok (.iconst 5, 1) := by decide +kernel
theorem dX4_carryOut_138 : decode cX4_carryOut 138 = .ok (.imul, 1) := by decide +kernel
theorem dX4_carryOut_139 : decode cX4_carryOut 139 = .ok (.invokevirtual 79, 3) := by decide +kernel
theorem dX4_carryOut_142 : decode cX4_carryOut 142 = .ok (.iconst 1, 1) := by decide +kernel
theorem dX4_carryOut_143 : decode cX4_carryOut 143 = .ok (.ireturn, 1) := by decide +kernel
theorem dX4_carryOut_144 : decode cX4_carryOut 144 = .ok (.aload_n 0, 1) := by decide +kernel
theorem dX4_carryOut_145 : decode cX4_carryOut 145 = .ok (.getfield 12, 3) := by decide +kernel
theorem dX4_carryOut_148 : decode cX4_carryOut 148 = .ok (.iload_n 2, 1) := by decide +kernel
theorem dX4_carryOut_149 : decode cX4_carryOut 149 = .ok (.invokevirtual 87, 3) := by decide +kernel
theorem dX4_carryOut_152 : decode cX4_carryOut 152 = .ok (.iconst 1, 1) := by decide +kernel
theorem dX4_carryOut_153 : decode cX4_carryOut 153 = .ok (.ireturn, 1) := by decide +kernel
theorem dX4_carryOut_154 : decode cX4_carryOut 154 = .ok (.iconst 0, 1) := by decide +kernel
theorem dX4_carryOut_155 : decode cX4_carryOut 155 = .ok (.ireturn, 1) := by decide +kernel
set_option maxRecDepth 20000 in
theorem ggX4_undo_X2_popInto : GoodIn wsX4_undo wsX2_popInto := goodIn_r _ [10, 11, 12, 13, 14, 15, 16, 17, 18, 19, 20, 21, 22, 23, 24, 25, 26, 27, 28, 29, 30, 31, 32, 33, 34, 39, 40, 41, 42, 43, 44, 45, 46, 47, 48, 49, 50, 51, 52, 53] (by decide +kernel) (by decide +kernel)
set_option maxRecDepth 20000 in
theorem gX4_undo_X2_popInto : GoodIn wsX4_undo (wsV RX4 178 RX2 yX2_popInto wsX2_popInto) := goodIn_app (goodIn_of _ (by decide +kernel)) ggX4_undo_X2_popInto
theorem dX4_undo_0 : decode cX4_undo 0 = .ok (.aload_n 0, 1) := by decide +kernel
theorem dX4_undo_1 : decode cX4_undo 1 = .ok (.getfield 19, 3) := by decide +kernel
theorem dX4_undo_4 : decode cX4_undo 4 = .ok (.getfield 173, 3) := by decide +kernel
theorem dX4_undo_7 : decode cX4_undo 7 = .ok (.ifCond .ne 13, 3) := by decide +kernel
theorem dX4_undo_10 : decode cX4_undo 10 = .ok (.new 43, 3) := by decide +kernel
theorem dX4_undo_13 : decode cX4_undo 13 = .ok (.dup, 1) := by decide +kernel
theorem dX4_undo_14 : decode cX4_undo 14 = .ok (.ldc 176, 2) := by decide +kernel
theorem dX4_undo_16 : decode cX4_undo 16 = .ok (.invokespecial 47, 3) := by decide +kernel
theorem dX4_undo_19 : decode cX4_undo 19 = .ok (.athrow, 1) := by decide +kernel
theorem dX4_undo_20 : decode cX4_undo 20 = .ok (.aload_n 0, 1) := by decide +kernel
theorem dX4_undo_21 : decode cX4_undo 21 = .ok (.getfield 19, 3) := by decide +kernel
theorem dX4_undo_24 : decode cX4_undo 24 = .ok (.aload_n 0, 1) := by decide +kernel
theorem dX4_undo_25 : decode cX4_undo 25 = .ok (.getfield 12, 3) := by decide +kernel
theorem dX4_undo_28 : decode cX4_undo 28 = .ok (.invokevirtual 178, 3) := by decide +kernel
theorem dX4_undo_31 : decode cX4_undo 31 = .ok (.aload_n 0, 1) := by decide +kernel
theorem dX4_undo_32 : decode cX4_undo 32 = .ok (.getfield 19, 3) := by decide +kernel
theorem dX4_undo_35 : decode cX4_undo 35 = .ok (.getfield 173, 3) := by decide +kernel
theorem dX4_undo_38 : decode cX4_undo 38 = .ok (.ireturn, 1) := by decide +kernel
set_option maxRecDepth 20000 in
theorem ggX4_keep_X4_checkRange : GoodIn wsX4_keep wsX4_checkRange := goodIn_ca (goodIn_r _ [10, 11, 12] (by decide +kernel) (by decide +kernel)) (goodIn_sub (fun _ h => List.mem_cons_of_mem _ (List.mem_append_right _ h)) (by decide +kernel))
set_option maxRecDepth 20000 in
theorem gX4_keep_X4_checkRange : GoodIn wsX4_keep (va_wsS RX4 35 yX4_checkRange wsX4_checkRange) := goodIn_app (goodIn_of _ (by decide +kernel)) ggX4_keep_X4_checkRange
set_option maxRecDepth 20000 in
theorem ggX4_keep_X3_init : GoodIn wsX4_keep wsX3_init := goodIn_r _ [14, 15, 16, 17, 18, 19, 20, 21, 22, 23, 24, 25, 26, 27, 28, 29, 30, 31, 32, 50, 51, 52, 53, 54, 55, 56, 57, 58, 59, 60, 61, 62] (by decide +kernel) (by decide +kernel)
set_option maxRecDepth 20000 in
theorem gX4_keep_X3_init_n11 : GoodIn wsX4_keep (wsX3_init) := ggX4_keep_X3_init
set_option maxRecDepth 20000 in
theorem ggX4_keep_X3_copyFrom : GoodIn wsX4_keep wsX3_copyFrom := goodIn_r _ [36, 19, 37, 38, 39, 40, 20, 21, 22, 23, 24, 25, 32, 41, 42, 43, 44, 45, 50, 51, 52, 53, 54, 55, 56, 57, 58, 59, 60, 61, 62] (by decide +kernel) (by decide +kernel)
set_option maxRecDepth 20000 in
theorem gX4_keep_X3_copyFrom : GoodIn wsX4_keep (wsV RX4 181 RX3 yX3_copyFrom wsX3_copyFrom) := goodIn_app (goodIn_of _ (by decide +kernel)) ggX4_keep_X3_copyFrom
theorem dX4_keep_0 : decode cX4_keep 0 = .ok (.iload_n 1, 1) := by decide +kernel
theorem dX4_keep_1 : decode cX4_keep 1 = .ok (.iconst 0, 1) := by decide +kernel
theorem dX4_keep_2 : decode cX4_keep 2 = .ok (.iconst 1, 1) := by decide +kernel
theorem dX4_keep_3 : decode cX4_keep 3 = .ok (.invokestatic 35, 3) := by decide +kernel
theorem dX4_keep_6 : decode cX4_keep 6 = .ok (.aload_n 0, 1) := by decide +kernel
theorem dX4_keep_7 : decode cX4_keep 7 = .ok (.getfield 23, 3) := by decide +kernel
theorem dX4_keep_10 : decode cX4_keep 10 = .ok (.iload_n 1, 1) := by decide +kernel
theorem dX4_keep_11 : decode cX4_keep 11 = .ok (.aaload, 1) := by decide +kernel
theorem dX4_keep_12 : decode cX4_keep 12 = .ok (.astore_n 2, 1) := by decide +kernel
theorem dX4_keep_13 : decode cX4_keep 13 = .ok (.aload_n 2, 1) := by decide +kernel
theorem dX4_keep_14 : decode cX4_keep 14 = .ok (.ifnonnull 18, 3) := by decide +kernel
theorem dX4_keep_17 : decode cX4_keep 17 = .ok (.new 9, 3) := by decide +kernel
theorem dX4_keep_20 : decode cX4_keep 20 = .ok (.dup, 1) := by decide +kernel
theorem dX4_keep_21 : decode cX4_keep 21 = .ok (.invokespecial 11, 3) := by decide +kernel
theorem dX4_keep_24 : decode cX4_keep 24 = .ok (.astore_n 2, 1) := by decide +kernel
theorem dX4_keep_25 : decode cX4_keep 25 = .ok (.aload_n 0, 1) := by decide +kernel
theorem dX4_keep_26 : decode cX4_keep 26 = .ok (.getfield 23, 3) := by decide +kernel
theorem dX4_keep_29 : decode cX4_keep 29 = .ok (.iload_n 1, 1) := by decide +kernel
theorem dX4_keep_30 : decode cX4_keep 30 = .ok (.aload_n 2, 1) := by decide +kernel
theorem dX4_keep_31 : decode cX4_keep 31 = .ok (.aastore, 1) := by decide +kernel
theorem dX4_keep_32 : decode cX4_keep 32 = .ok (.aload_n 2, 1) := by decide +kernel
theorem dX4_keep_33 : decode cX4_keep 33 = .ok (.aload_n 0, 1) := by decide +kernel
theorem dX4_keep_34 : decode cX4_keep 34 = .ok (.getfield 12, 3) := by decide +kernel
theorem dX4_keep_37 : decode cX4_keep 37 = .ok (.invokevirtual 181, 3) := by decide +kernel
theorem dX4_keep_40 : decode cX4_keep 40 = .ok (.aload_n 0, 1) := by decide +kernel
theorem dX4_keep_41 : decode cX4_keep 41 = .ok (.getfield 12, 3) := by decide +kernel
theorem dX4_keep_44 : decode cX4_keep 44 = .ok (.getfield 68, 3) := by decide +kernel
theorem dX4_keep_47 : decode cX4_keep 47 = .ok (.ireturn, 1) := by decide +kernel
set_option maxRecDepth 20000 in
theorem ggX4_goBack_X4_checkRange : GoodIn wsX4_goBack wsX4_checkRange := goodIn_ca (goodIn_r _ [10, 11, 12] (by decide +kernel) (by decide +kernel)) (goodIn_sub (fun _ h => List.mem_cons_of_mem _ (List.mem_append_right _ h)) (by decide +kernel))
set_option maxRecDepth 20000 in
theorem gX4_goBack_X4_checkRange : GoodIn wsX4_goBack (va_wsS RX4 35 yX4_checkRange wsX4_checkRange) := goodIn_app (goodIn_of _ (by decide +kernel)) ggX4_goBack_X4_checkRange
set_option maxRecDepth 20000 in
theorem ggX4_goBack_X2_push : GoodIn wsX4_goBack wsX2_push := goodIn_r _ [17, 18, 19, 20, 21, 22, 16, 23, 24, 25, 26, 27, 28, 29, 30, 31, 32, 33, 34, 35, 36, 37, 38, 39, 40, 41, 42, 43, 44, 45, 64, 65, 51, 52, 53, 54, 55, 56, 57, 58, 59, 60, 61, 62, 63] (by decide +kernel) (by decide +kernel)
set_option maxRecDepth 20000 in
theorem gX4_goBack_X2_push : GoodIn wsX4_goBack (wsV RX4 50 RX2 yX2_push wsX2_push) := goodIn_app (goodIn_of _ (by decide +kernel)) ggX4_goBack_X2_push
set_option maxRecDepth 20000 in
theorem ggX4_goBack_X3_copyFrom : GoodIn wsX4_goBack wsX3_copyFrom := goodIn_r _ [28, 29, 30, 31, 32, 33, 34, 35, 36, 37, 38, 39, 40, 41, 42, 43, 44, 45, 51, 52, 53, 54, 55, 56, 57, 58, 59, 60, 61, 62, 63] (by decide +kernel) (by decide +kernel)
set_option maxRecDepth 20000 in
theorem gX4_goBack_X3_copyFrom : GoodIn wsX4_goBack (wsV RX4 181 RX3 yX3_copyFrom wsX3_copyFrom) := goodIn_app (goodIn_of _ (by decide +kernel)) ggX4_goBack_X3_copyFrom
theorem dX4_goBack_0 : decode cX4_goBack 0 = .ok (.iload_n 1, 1) := by decide +kernel
theorem dX4_goBack_1 : decode cX4_goBack 1 = .ok (.iconst 0, 1) := by decide +kernel
theorem dX4_goBack_2 : decode cX4_goBack 2 = .ok (.iconst 1, 1) := by decide +kernel
theorem dX4_goBack_3 : decode cX4_goBack 3 = .ok (.invokestatic 35, 3) := by decide +kernel
theorem dX4_goBack_6 : decode cX4_goBack 6 = .ok (.aload_n 0, 1) := by decide +kernel
theorem dX4_goBack_7 : decode cX4_goBack 7 = .ok (.getfield 23, 3) := by decide +kernel
theorem dX4_goBack_10 : decode cX4_goBack 10 = .ok (.iload_n 1, 1) := by decide +kernel
theorem dX4_goBack_11 : decode cX4_goBack 11 = .ok (.aaload, 1) := by decide +kernel
theorem dX4_goBack_12 : decode cX4_goBack 12 = .ok (.astore_n 2, 1) := by decide +kernel
theorem dX4_goBack_13 : decode cX4_goBack 13 = .ok (.aload_n 2, 1) := by decide +kernel
theorem dX4_goBack_14 : decode cX4_goBack 14 = .ok (.ifnonnull 13, 3) := by decide +kernel
theorem dX4_goBack_17 : decode cX4_goBack 17 = .ok (.new 43, 3) := by decide +kernel
theorem dX4_goBack_20 : decode cX4_goBack 20 = .ok (.dup, 1) := by decide +kernel
theorem dX4_goBack_21 : decode cX4_goBack 21 = .ok (.ldc 184, 2) := by decide +kernel
theorem dX4_goBack_23 : decode cX4_goBack 23 = .ok (.invokespecial 47, 3) := by decide +kernel
theorem dX4_goBack_26 : decode cX4_goBack 26 = .ok (.athrow, 1) := by decide +kernel
theorem dX4_goBack_27 : decode cX4_goBack 27 = .ok (.aload_n 0, 1) := by decide +kernel
theorem dX4_goBack_28 : decode cX4_goBack 28 = .ok (.getfield 19, 3) := by decide +kernel
theorem dX4_goBack_31 : decode cX4_goBack 31 = .ok (.aload_n 0, 1) := by decide +kernel
theorem dX4_goBack_32 : decode cX4_goBack 32 = .ok (.getfield 12, 3) := by decide +kernel
theorem dX4_goBack_35 : decode cX4_goBack 35 = .ok (.invokevirtual 50, 3) := by decide +kernel
theorem dX4_goBack_38 : decode cX4_goBack 38 = .ok (.aload_n 0, 1) := by decide +kernel
theorem dX4_goBack_39 : decode cX4_goBack 39 = .ok (.getfield 12, 3) := by decide +kernel
theorem dX4_goBack_42 : decode cX4_goBack 42 = .ok (.aload_n 2, 1) := by decide +kernel
theorem dX4_goBack_43 : decode cX4_goBack 43 = .ok (.invokevirtual 181, 3) := by decide +kernel
theorem dX4_goBack_46 : decode cX4_goBack 46 = .ok (.aload_n 0, 1) := by decide +kernel
theorem dX4_goBack_47 : decode cX4_goBack 47 = .ok (.getfield 12, 3) := by decide +kernel
theorem dX4_goBack_50 : decode cX4_goBack 50 = .ok (.getfield 68, 3) := by decide +kernel
theorem dX4_goBack_53 : decode cX4_goBack 53 = .ok (.ireturn, 1) := by decide +kernel
set_option maxRecDepth 20000 in
theorem ggX4_blockOf_X4_checkBlock : GoodIn wsX4_blockOf wsX4_checkBlock := goodIn_ca (goodIn_r _ [14, 15, 16, 3, 17, 18, 19, 20, 21, 22, 51, 52, 53, 54, 55, 56, 57, 58, 59, 60, 61, 62, 63, 64, 65, 66, 67] (by decide +kernel) (by decide +kernel)) (goodIn_sub (fun _ h => List.mem_cons_of_mem _ (List.mem_append_right _ h)) (by decide +kernel))
set_option maxRecDepth 20000 in
theorem gX4_blockOf_X4_checkBlock : GoodIn wsX4_blockOf (wsV RX4 58 RX4 yX4_checkBlock wsX4_checkBlock) := goodIn_app (goodIn_of _ (by decide +kernel)) ggX4_blockOf_X4_checkBlock
set_option maxRecDepth 20000 in
theorem ggX4_blockOf_X3_errorOf : GoodIn wsX4_blockOf wsX3_errorOf := goodIn_r _ [26, 27, 28, 55, 56, 57, 58, 59, 60, 61, 62, 63, 64, 65, 66, 67] (by decide +kernel) (by decide +kernel)
set_option maxRecDepth 20000 in
theorem gX4_blockOf_X3_errorOf : GoodIn wsX4_blockOf (wsV RX4 189 RX3 yX3_errorOf wsX3_errorOf) := goodIn_app (goodIn_of _ (by decide +kernel)) ggX4_blockOf_X3_errorOf
set_option maxRecDepth 20000 in
theorem ggX4_blockOf_X3_gradeOf : GoodIn wsX4_blockOf wsX3_gradeOf := goodIn_r _ [32, 33, 34, 35, 20, 36, 37, 38, 39, 40, 41, 24, 25, 26, 27, 28, 55, 56, 57, 58, 59, 60, 61, 62, 63, 64, 65, 66, 67] (by decide +kernel) (by decide +kernel)
set_option maxRecDepth 20000 in
theorem gX4_blockOf_X3_gradeOf : GoodIn wsX4_blockOf (wsV RX4 75 RX3 yX3_gradeOf wsX3_gradeOf) := goodIn_app (goodIn_of _ (by decide +kernel)) ggX4_blockOf_X3_gradeOf
set_option maxRecDepth 20000 in
theorem ggX4_blockOf_X3_trueLengthOf : GoodIn wsX4_blockOf wsX3_trueLengthOf := goodIn_r _ [45, 46, 47, 27, 28, 48, 49, 20, 50, 55, 56, 57, 58, 59, 60, 61, 62, 63, 64, 65, 66, 67] (by decide +kernel) (by decide +kernel)
set_option maxRecDepth 20000 in
theorem gX4_blockOf_X3_trueLengthOf : GoodIn wsX4_blockOf (wsV RX4 195 RX3 yX3_trueLengthOf wsX3_trueLengthOf) := goodIn_app (goodIn_of _ (by decide +kernel)) ggX4_blockOf_X3_trueLengthOf
theorem dX4_blockOf_0 : decode cX4_blockOf 0 = .ok (.aload_n 0, 1) := by decide +kernel
theorem dX4_blockOf_1 : decode cX4_blockOf 1 = .ok (.iload_n 1, 1) := by decide +kernel
theorem dX4_blockOf_2 : decode cX4_blockOf 2 = .ok (.invokevirtual 58, 3) := by decide +kernel
theorem dX4_blockOf_5 : decode cX4_blockOf 5 = .ok (.iload_n 2, 1) := by decide +kernel
theorem dX4_blockOf_6 : decode cX4_blockOf 6 = .ok (.tableswitch 142 0 8 #[50, 60, 73, 83, 93, 102, 112, 122, 132], 50) := by decide +kernel
theorem dX4_blockOf_56 : decode cX4_blockOf 56 = .ok (.aload_n 0, 1) := by decide +kernel
theorem dX4_blockOf_57 : decode cX4_blockOf 57 = .ok (.getfield 12, 3) := by decide +kernel
theorem dX4_blockOf_60 : decode cX4_blockOf 60 = .ok (.getfield 186, 3) := by decide +kernel
theorem dX4_blockOf_63 : decode cX4_blockOf 63 = .ok (.iload_n 1, 1) := by decide +kernel
theorem dX4_blockOf_64 : decode cX4_blockOf 64 = .ok (.iaload, 1) := by decide +kernel
theorem dX4_blockOf_65 : decode cX4_blockOf 65 = .ok (.ireturn, 1) := by decide +kernel
theorem dX4_blockOf_66 : decode cX4_blockOf 66 = .ok (.aload_n 0, 1) := by decide +kernel
theorem dX4_blockOf_67 : decode cX4_blockOf 67 = .ok (.getfield 12, 3) := by decide +kernel
theorem dX4_blockOf_70 : decode cX4_blockOf 70 = .ok (.iload_n 1, 1) := by decide +kernel
theorem dX4_blockOf_71 : decode cX4_blockOf 71 = .ok (.invokevirtual 189, 3) := by decide +kernel
theorem dX4_blockOf_74 : decode cX4_blockOf 74 = .ok (.sipush 10000, 3) := by decide +kernel
theorem dX4_blockOf_77 : decode cX4_blockOf 77 = .ok (.iadd, 1) := by decide +kernel
theorem dX4_blockOf_78 : decode cX4_blockOf 78 = .ok (.ireturn, 1) := by decide +kernel
theorem dX4_blockOf_79 : decode cX4_blockOf 79 = .ok (.aload_n 0, 1) := by decide +kernel
theorem dX4_blockOf_80 : decode cX4_blockOf 80 = .ok (.getfield 12, 3) := by decide +kernel
theorem dX4_blockOf_83 : decode cX4_blockOf 83 = .ok (.getfield 192, 3) := by decide +kernel
theorem dX4_blockOf_86 : decode cX4_blockOf 86 = .ok (.iload_n 1, 1) := by decide +kernel
theorem dX4_blockOf_87 : decode cX4_blockOf 87 = .ok (.iaload, 1) := by decide +kernel
theorem dX4_blockOf_88 : decode cX4_blockOf 88 = .ok (.ireturn, 1) := by decide +kernel
theorem dX4_blockOf_89 : decode cX4_blockOf 89 = .ok (.aload_n 0, 1) := by decide +kernel
theorem dX4_blockOf_90 : decode cX4_blockOf 90 = .ok (.getfield 12, 3) := by decide +kernel
theorem dX4_blockOf_93 : decode cX4_blockOf 93 = .ok (.getfield 83, 3) := by decide +kernel
theorem dX4_blockOf_96 : decode cX4_blockOf 96 = .ok (.iload_n 1, 1) := by decide +kernel
theorem dX4_blockOf_97 : decode cX4_blockOf 97 = .ok (.iaload, 1) := by decide +kernel
theorem dX4_blockOf_98 : decode cX4_blockOf 98 = .ok (.ireturn, 1) := by decide +kernel
theorem dX4_blockOf_99 : decode cX4_blockOf 99 = .ok (.aload_n 0, 1) := by decide +kernel
theorem dX4_blockOf_100 : decode cX4_blockOf 100 = .ok (.getfield 12, 3) := by decide +kernel
theorem dX4_blockOf_103 : decode cX4_blockOf 103 = .ok (.iload_n 1, 1) := by decide +kernel
theorem dX4_blockOf_104 : decode cX4_blockOf 104 = .ok (.invokevirtual 75, 3) := by decide +kernel
theorem dX4_blockOf_107 : decode cX4_blockOf 107 = .ok (.ireturn, 1) := by decide +kernel
theorem dX4_blockOf_108 : decode cX4_blockOf 108 = .ok (.aload_n 0, 1) := by decide +kernel
theorem dX4_blockOf_109 : decode cX4_blockOf 109 = .ok (.getfield 12, 3) := by decide +kernel
theorem dX4_blockOf_112 : decode cX4_blockOf 112 = .ok (.iload_n 1, 1) := by decide +kernel
theorem dX4_blockOf_113 : decode cX4_blockOf 113 = .ok (.iconst 0, 1) := by decide +kernel
theorem dX4_blockOf_114 : decode cX4_blockOf 114 = .ok (.invokevirtual 195, 3) := by decide +kernel
theorem dX4_blockOf_117 : decode cX4_blockOf 117 = .ok (.ireturn, 1) := by decide +kernel
theorem dX4_blockOf_118 : decode cX4_blockOf 118 = .ok (.aload_n 0, 1) := by decide +kernel
theorem dX4_blockOf_119 : decode cX4_blockOf 119 = .ok (.getfield 12, 3) := by decide +kernel
theorem dX4_blockOf_122 : decode cX4_blockOf 122 = .ok (.getfield 198, 3) := by decide +kernel
theorem dX4_blockOf_125 : decode cX4_blockOf 125 = .ok (.iload_n 1, 1) := by decide +kernel
theorem dX4_blockOf_126 : decode cX4_blockOf 126 = .ok (.iaload, 1) := by decide +kernel
theorem dX4_blockOf_127 : decode cX4_blockOf 127 = .ok (.ireturn, 1) := by decide +kernel
theorem dX4_blockOf_128 : decode cX4_blockOf 128 = .ok (.aload_n 0, 1) := by decide +kernel
theorem dX4_blockOf_129 : decode cX4_blockOf 129 = .ok (.getfield 12, 3) := by decide +kernel
theorem dX4_blockOf_132 : decode cX4_blockOf 132 = .ok (.getfield 201, 3) := by decide +kernel
theorem dX4_blockOf_135 : decode cX4_blockOf 135 = .ok (.iload_n 1, 1) := by decide +kernel
theorem dX4_blockOf_136 : decode cX4_blockOf 136 = .ok (.iaload, 1) := by decide +kernel
theorem dX4_blockOf_137 : decode cX4_blockOf 137 = .ok (.ireturn, 1) := by decide +kernel
theorem dX4_blockOf_138 : decode cX4_blockOf 138 = .ok (.aload_n 0, 1) := by decide +kernel
theorem dX4_blockOf_139 : decode cX4_blockOf 139 = .ok (.getfield 12, 3) := by decide +kernel
theorem dX4_blockOf_142 : decode cX4_blockOf 142 = .ok (.getfield 204, 3) := by decide +kernel
theorem dX4_blockOf_145 : decode cX4_blockOf 145 = .ok (.iload_n 1, 1) := by decide +kernel
theorem dX4_blockOf_146 : decode cX4_blockOf 146 = .ok (.iaload, 1) := by decide +kernel
theorem dX4_blockOf_147 : decode cX4_blockOf 147 = .ok (.ireturn, 1) := by decide +kernel
theorem dX4_blockOf_148 : decode cX4_blockOf 148 = .ok (.new 145, 3) := by decide +kernel
theorem dX4_blockOf_151 : decode cX4_blockOf 151 = .ok (.dup, 1) := by decide +kernel
theorem dX4_blockOf_152 : decode cX4_blockOf 152 = .ok (.ldc 207, 2) := by decide +kernel
theorem dX4_blockOf_154 : decode cX4_blockOf 154 = .ok (.invokespecial 149, 3) := by decide +kernel
theorem dX4_blockOf_157 : decode cX4_blockOf 157 = .ok (.athrow, 1) := by decide +kernel
set_option maxRecDepth 20000 in
theorem ggX4_stackOf_X4_checkStack : GoodIn wsX4_stackOf wsX4_checkStack := goodIn_ca (goodIn_r _ [7, 8, 9] (by decide +kernel) (by decide +kernel)) (goodIn_sub (fun _ h => List.mem_cons_of_mem _ (List.mem_append_right _ h)) (by decide +kernel))
set_option maxRecDepth 20000 in
theorem gX4_stackOf_X4_checkStack : GoodIn wsX4_stackOf (va_wsS RX4 103 yX4_checkStack wsX4_checkStack) := goodIn_app (goodIn_of _ (by decide +kernel)) ggX4_stackOf_X4_checkStack
set_option maxRecDepth 20000 in
theorem ggX4_stackOf_X3_heightOf : GoodIn wsX4_stackOf wsX3_heightOf := goodIn_r _ [14, 15, 16, 17, 13, 18, 19, 20, 21, 22, 23, 24, 25, 26, 27, 87, 88, 89, 90, 91, 92, 93, 94, 95, 96, 97, 98, 99] (by decide +kernel) (by decide +kernel)
set_option maxRecDepth 20000 in
theorem gX4_stackOf_X3_heightOf : GoodIn wsX4_stackOf (wsV RX4 109 RX3 yX3_heightOf wsX3_heightOf) := goodIn_app (goodIn_of _ (by decide +kernel)) ggX4_stackOf_X3_heightOf
set_option maxRecDepth 20000 in
theorem ggX4_stackOf_X3_blocksIn : GoodIn wsX4_stackOf wsX3_blocksIn := goodIn_r _ [18, 19, 20, 87, 88, 89, 90, 91, 92, 93, 94, 95, 96, 97, 98, 99] (by decide +kernel) (by decide +kernel)
set_option maxRecDepth 20000 in
theorem gX4_stackOf_X3_blocksIn : GoodIn wsX4_stackOf (wsV RX4 209 RX3 yX3_blocksIn wsX3_blocksIn) := goodIn_app (goodIn_of _ (by decide +kernel)) ggX4_stackOf_X3_blocksIn
set_option maxRecDepth 20000 in
theorem ggX4_stackOf_X3_nominalOfSet : GoodIn wsX4_stackOf wsX3_nominalOfSet := goodIn_r _ [32, 19, 33, 87, 88, 89, 90, 91, 92, 93, 94, 95, 96, 97, 98, 99] (by decide +kernel) (by decide +kernel)
set_option maxRecDepth 20000 in
theorem gX4_stackOf_X3_nominalOfSet : GoodIn wsX4_stackOf (wsV RX4 212 RX3 yX3_nominalOfSet wsX3_nominalOfSet) := goodIn_app (goodIn_of _ (by decide +kernel)) ggX4_stackOf_X3_nominalOfSet
set_option maxRecDepth 20000 in
theorem ggX4_stackOf_X3_trueLengthOfStack : GoodIn wsX4_stackOf wsX3_trueLengthOfStack := goodIn_r _ [37, 19, 20, 38, 39, 40, 41, 13, 42, 43, 33, 44, 45, 46, 47, 48, 87, 88, 89, 90, 91, 92, 93, 94, 95, 96, 97, 98, 99] (by decide +kernel) (by decide +kernel)
set_option maxRecDepth 20000 in
theorem gX4_stackOf_X3_trueLengthOfStack : GoodIn wsX4_stackOf (wsV RX4 215 RX3 yX3_trueLengthOfStack wsX3_trueLengthOfStack) := goodIn_app (goodIn_of _ (by decide +kernel)) ggX4_stackOf_X3_trueLengthOfStack
set_option maxRecDepth 20000 in
theorem ggX4_stackOf_X3_blockAt : GoodIn wsX4_stackOf wsX3_blockAt := goodIn_r _ [52, 19, 20, 53, 87, 88, 89, 90, 91, 92, 93, 94, 95, 96, 97, 98, 99] (by decide +kernel) (by decide +kernel)
set_option maxRecDepth 20000 in
theorem gX4_stackOf_X3_blockAt : GoodIn wsX4_stackOf (wsV RX4 218 RX3 yX3_blockAt wsX3_blockAt) := goodIn_app (goodIn_of _ (by decide +kernel)) ggX4_stackOf_X3_blockAt
set_option maxRecDepth 20000 in
theorem ggX4_stackOf_X3_greatestGradeIn : GoodIn wsX4_stackOf wsX3_greatestGradeIn := goodIn_r _ [57, 19, 20, 58, 59, 60, 61, 62, 63, 64, 13, 65, 66, 67, 68, 69, 70, 71, 72, 73, 74, 75, 76, 44, 45, 87, 88, 89, 90, 91, 92, 93, 94, 95, 96, 97, 98, 99] (by decide +kernel) (by decide +kernel)
set_option maxRecDepth 20000 in
theorem gX4_stackOf_X3_greatestGradeIn : GoodIn wsX4_stackOf (wsV RX4 221 RX3 yX3_greatestGradeIn wsX3_greatestGradeIn) := goodIn_app (goodIn_of _ (by decide +kernel)) ggX4_stackOf_X3_greatestGradeIn
set_option maxRecDepth 20000 in
theorem ggX4_stackOf_X3_sizeOfDifference : GoodIn wsX4_stackOf wsX3_sizeOfDifference := goodIn_r _ [80, 70, 71, 60, 72, 81, 35, 36, 13, 37, 19, 20, 38, 39, 40, 41, 42, 43, 33, 44, 45, 46, 47, 48, 15, 16, 17, 18, 82, 30, 31, 32, 87, 88, 89, 90, 91, 92, 93, 94, 95, 96, 97, 98, 99] (by decide +kernel) (by decide +kernel)
set_option maxRecDepth 20000 in
theorem gX4_stackOf_X3_sizeOfDifference : GoodIn wsX4_stackOf (wsV RX4 224 RX3 yX3_sizeOfDifference wsX3_sizeOfDifference) := goodIn_app (goodIn_of _ (by decide +kernel)) ggX4_stackOf_X3_sizeOfDifference
theorem dX4_stackOf_0 : decode cX4_stackOf 0 = .ok (.iload_n 1, 1) := by decide +kernel
theorem dX4_stackOf_1 : decode cX4_stackOf 1 = .ok (.invokestatic 103, 3) := by decide +kernel
theorem dX4_stackOf_4 : decode cX4_stackOf 4 = .ok (.iload_n 2, 1) := by decide +kernel
theorem dX4_stackOf_5 : decode cX4_stackOf 5 = .ok (.tableswitch 124 0 6 #[43, 52, 68, 78, 87, 106, 115], 43) := by decide +kernel
theorem dX4_stackOf_48 : decode cX4_stackOf 48 = .ok (.aload_n 0, 1) := by decide +kernel
theorem dX4_stackOf_49 : decode cX4_stackOf 49 = .ok (.getfield 12, 3) := by decide +kernel
theorem dX4_stackOf_52 : decode cX4_stackOf 52 = .ok (.iload_n 1, 1) := by decide +kernel
theorem dX4_stackOf_53 : decode cX4_stackOf 53 = .ok (.invokevirtual 109, 3) := by decide +kernel
theorem dX4_stackOf_56 : decode cX4_stackOf 56 = .ok (.ireturn, 1) := by decide +kernel
theorem dX4_stackOf_57 : decode cX4_stackOf 57 = .ok (.aload_n 0, 1) := by decide +kernel
theorem dX4_stackOf_58 : decode cX4_stackOf 58 = .ok (.getfield 12, 3) := by decide +kernel
theorem dX4_stackOf_61 : decode cX4_stackOf 61 = .ok (.aload_n 0, 1) := by decide +kernel
theorem dX4_stackOf_62 : decode cX4_stackOf 62 = .ok (.getfield 12, 3) := by decide +kernel
theorem dX4_stackOf_65 : decode cX4_stackOf 65 = .ok (.iload_n 1, 1) := by decide +kernel
theorem dX4_stackOf_66 : decode cX4_stackOf 66 = .ok (.invokevirtual 209, 3) := by decide +kernel
theorem dX4_stackOf_69 : decode cX4_stackOf 69 = .ok (.invokevirtual 212, 3) := by decide +kernel
theorem dX4_stackOf_72 : decode cX4_stackOf 72 = .ok (.ireturn, 1) := by decide +kernel
theorem dX4_stackOf_73 : decode cX4_stackOf 73 = .ok (.aload_n 0, 1) := by decide +kernel
theorem dX4_stackOf_74 : decode cX4_stackOf 74 = .ok (.getfield 12, 3) := by decide +kernel
theorem dX4_stackOf_77 : decode cX4_stackOf 77 = .ok (.iload_n 1, 1) := by decide +kernel
theorem dX4_stackOf_78 : decode cX4_stackOf 78 = .ok (.iconst 0, 1) := by decide +kernel
theorem dX4_stackOf_79 : decode cX4_stackOf 79 = .ok (.invokevirtual 215, 3) := by decide +kernel
theorem dX4_stackOf_82 : decode cX4_stackOf 82 = .ok (.ireturn, 1) := by decide +kernel
theorem dX4_stackOf_83 : decode cX4_stackOf 83 = .ok (.aload_n 0, 1) := by decide +kernel
theorem dX4_stackOf_84 : decode cX4_stackOf 84 = .ok (.getfield 12, 3) := by decide +kernel
theorem dX4_stackOf_87 : decode cX4_stackOf 87 = .ok (.iload_n 1, 1) := by decide +kernel
theorem dX4_stackOf_88 : decode cX4_stackOf 88 = .ok (.invokevirtual 209, 3) := by decide +kernel
theorem dX4_stackOf_91 : decode cX4_stackOf 91 = .ok (.ireturn, 1) := by decide +kernel
theorem dX4_stackOf_92 : decode cX4_stackOf 92 = .ok (.aload_n 0, 1) := by decide +kernel
theorem dX4_stackOf_93 : decode cX4_stackOf 93 = .ok (.getfield 12, 3) := by decide +kernel
theorem dX4_stackOf_96 : decode cX4_stackOf 96 = .ok (.iload_n 1, 1) := by decide +kernel
theorem dX4_stackOf_97 : decode cX4_stackOf 97 = .ok (.aload_n 0, 1) := by decide +kernel
theorem dX4_stackOf_98 : decode cX4_stackOf 98 = .ok (.getfield 12, 3) := by decide +kernel
theorem dX4_stackOf_101 : decode cX4_stackOf 101 = .ok (.iload_n 1, 1) := by decide +kernel
theorem dX4_stackOf_102 : decode cX4_stackOf 102 = .ok (.invokevirtual 109, 3) := by decide +kernel
theorem dX4_stackOf_105 : decode cX4_stackOf 105 = .ok (.iconst 1, 1) := by decide +kernel
theorem dX4_stackOf_106 : decode cX4_stackOf 106 = .ok (.isub, 1) := by decide +kernel
theorem dX4_stackOf_107 : decode cX4_stackOf 107 = .ok (.invokevirtual 218, 3) := by decide +kernel
theorem dX4_stackOf_110 : decode cX4_stackOf 110 = .ok (.ireturn, 1) := by decide +kernel
theorem dX4_stackOf_111 : decode cX4_stackOf 111 = .ok (.aload_n 0, 1) := by decide +kernel
theorem dX4_stackOf_112 : decode cX4_stackOf 112 = .ok (.getfield 12, 3) := by decide +kernel
theorem dX4_stackOf_115 : decode cX4_stackOf 115 = .ok (.iload_n 1, 1) := by decide +kernel
theorem dX4_stackOf_116 : decode cX4_stackOf 116 = .ok (.invokevirtual 221, 3) := by decide +kernel
theorem dX4_stackOf_119 : decode cX4_stackOf 119 = .ok (.ireturn, 1) := by decide +kernel
theorem dX4_stackOf_120 : decode cX4_stackOf 120 = .ok (.aload_n 0, 1) := by decide +kernel
theorem dX4_stackOf_121 : decode cX4_stackOf 121 = .ok (.getfield 12, 3) := by decide +kernel
theorem dX4_stackOf_124 : decode cX4_stackOf 124 = .ok (.iload_n 1, 1) := by decide +kernel
theorem dX4_stackOf_125 : decode cX4_stackOf 125 = .ok (.invokevirtual 224, 3) := by decide +kernel
theorem dX4_stackOf_128 : decode cX4_stackOf 128 = .ok (.ireturn, 1) := by decide +kernel
theorem dX4_stackOf_129 : decode cX4_stackOf 129 = .ok (.new 145, 3) := by decide +kernel
theorem dX4_stackOf_132 : decode cX4_stackOf 132 = .ok (.dup, 1) := by decide +kernel
theorem dX4_stackOf_133 : decode cX4_stackOf 133 = .ok (.ldc 227, 2) := by decide +kernel
theorem dX4_stackOf_135 : decode cX4_stackOf 135 = .ok (.invokespecial 149, 3) := by decide +kernel
theorem dX4_stackOf_138 : decode cX4_stackOf 138 = .ok (.athrow, 1) := by decide +kernel
set_option maxRecDepth 20000 in
theorem ggX4_ranked_X4_checkRange : GoodIn wsX4_ranked wsX4_checkRange := goodIn_ca (goodIn_r _ [5, 6, 7] (by decide +kernel) (by decide +kernel)) (goodIn_sub (fun _ h => List.mem_cons_of_mem _ (List.mem_append_right _ h)) (by decide +kernel))
set_option maxRecDepth 20000 in
theorem gX4_ranked_X4_checkRange : GoodIn wsX4_ranked (va_wsS RX4 35 yX4_checkRange wsX4_checkRange) := goodIn_app (goodIn_of _ (by decide +kernel)) ggX4_ranked_X4_checkRange
set_option maxRecDepth 20000 in
theorem ggX4_ranked_X4_checkLeast : GoodIn wsX4_ranked wsX4_checkLeast := goodIn_ca (goodIn_r _ [10, 6, 7] (by decide +kernel) (by decide +kernel)) (goodIn_sub (fun _ h => List.mem_cons_of_mem _ (List.mem_append_right _ h)) (by decide +kernel))
set_option maxRecDepth 20000 in
theorem gX4_ranked_X4_checkLeast : GoodIn wsX4_ranked (va_wsS RX4 229 yX4_checkLeast wsX4_checkLeast) := goodIn_app (goodIn_of _ (by decide +kernel)) ggX4_ranked_X4_checkLeast
set_option maxRecDepth 20000 in
theorem ggX4_ranked_X0_blockOfRank : GoodIn wsX4_ranked wsX0_blockOfRank := goodIn_r _ [14, 15, 16, 17, 13, 18, 19, 20, 21, 22, 23, 24, 25, 26, 27, 28, 29, 30, 31, 32, 33, 34, 35, 36, 37, 38, 43, 44, 45, 46, 47, 48, 49, 50, 51, 52, 53, 54, 55] (by decide +kernel) (by decide +kernel)
set_option maxRecDepth 20000 in
theorem gX4_ranked_X0_blockOfRank : GoodIn wsX4_ranked (va_wsS RX4 232 yX0_blockOfRank wsX0_blockOfRank) := goodIn_app (goodIn_of _ (by decide +kernel)) ggX4_ranked_X0_blockOfRank
theorem dX4_ranked_0 : decode cX4_ranked 0 = .ok (.iload_n 1, 1) := by decide +kernel
theorem dX4_ranked_1 : decode cX4_ranked 1 = .ok (.iconst 0, 1) := by decide +kernel
theorem dX4_ranked_2 : decode cX4_ranked 2 = .ok (.iconst 2, 1) := by decide +kernel
theorem dX4_ranked_3 : decode cX4_ranked 3 = .ok (.invokestatic 35, 3) := by decide +kernel
theorem dX4_ranked_6 : decode cX4_ranked 6 = .ok (.iload_n 2, 1) := by decide +kernel
theorem dX4_ranked_7 : decode cX4_ranked 7 = .ok (.iconst 0, 1) := by decide +kernel
theorem dX4_ranked_8 : decode cX4_ranked 8 = .ok (.invokestatic 229, 3) := by decide +kernel
theorem dX4_ranked_11 : decode cX4_ranked 11 = .ok (.aload_n 0, 1) := by decide +kernel
theorem dX4_ranked_12 : decode cX4_ranked 12 = .ok (.getfield 12, 3) := by decide +kernel
theorem dX4_ranked_15 : decode cX4_ranked 15 = .ok (.iload_n 1, 1) := by decide +kernel
theorem dX4_ranked_16 : decode cX4_ranked 16 = .ok (.iload_n 2, 1) := by decide +kernel
theorem dX4_ranked_17 : decode cX4_ranked 17 = .ok (.invokestatic 232, 3) := by decide +kernel
theorem dX4_ranked_20 : decode cX4_ranked 20 = .ok (.ireturn, 1) := by decide +kernel
set_option maxRecDepth 20000 in
theorem ggX4_lengths_X4_checkLeast : GoodIn wsX4_lengths wsX4_checkLeast := goodIn_ca (goodIn_r _ [5, 6, 7] (by decide +kernel) (by decide +kernel)) (goodIn_sub (fun _ h => List.mem_cons_of_mem _ (List.mem_append_right _ h)) (by decide +kernel))
set_option maxRecDepth 20000 in
theorem gX4_lengths_X4_checkLeast : GoodIn wsX4_lengths (va_wsS RX4 229 yX4_checkLeast wsX4_checkLeast) := goodIn_app (goodIn_of _ (by decide +kernel)) ggX4_lengths_X4_checkLeast
set_option maxRecDepth 20000 in
theorem ggX4_lengths_X0_differentLengths : GoodIn wsX4_lengths wsX0_differentLengths := goodIn_r _ [11, 12, 13, 10, 14, 15, 16, 17, 18, 19, 20, 21, 22, 23, 24, 25, 31, 32, 33, 34, 35, 36, 37, 38, 39, 40, 41, 42, 43] (by decide +kernel) (by decide +kernel)
set_option maxRecDepth 20000 in
theorem gX4_lengths_X0_differentLengths : GoodIn wsX4_lengths (va_wsS RX4 236 yX0_differentLengths wsX0_differentLengths) := goodIn_app (goodIn_of _ (by decide +kernel)) ggX4_lengths_X0_differentLengths
set_option maxRecDepth 20000 in
theorem ggX4_lengths_X0_lengthOfRank : GoodIn wsX4_lengths wsX0_lengthOfRank := goodIn_r _ [14, 15, 16, 10, 17, 18, 19, 20, 21, 22, 23, 24, 25, 31, 32, 33, 34, 35, 36, 37, 38, 39, 40, 41, 42, 43] (by decide +kernel) (by decide +kernel)
set_option maxRecDepth 20000 in
theorem gX4_lengths_X0_lengthOfRank : GoodIn wsX4_lengths (va_wsS RX4 240 yX0_lengthOfRank wsX0_lengthOfRank) := goodIn_app (goodIn_of _ (by decide +kernel)) ggX4_lengths_X0_lengthOfRank
theorem dX4_lengths_0 : decode cX4_lengths 0 = .ok (.iload_n 1, 1) := by decide +kernel
theorem dX4_lengths_1 : decode cX4_lengths 1 = .ok (.iconst (-1), 1) := by decide +kernel
theorem dX4_lengths_2 : decode cX4_lengths 2 = .ok (.invokestatic 229, 3) := by decide +kernel
theorem dX4_lengths_5 : decode cX4_lengths 5 = .ok (.iload_n 1, 1) := by decide +kernel
theorem dX4_lengths_6 : decode cX4_lengths 6 = .ok (.iconst (-1), 1) := by decide +kernel
theorem dX4_lengths_7 : decode cX4_lengths 7 = .ok (.if_icmp .ne 13, 3) := by decide +kernel
theorem dX4_lengths_10 : decode cX4_lengths 10 = .ok (.aload_n 0, 1) := by decide +kernel
theorem dX4_lengths_11 : decode cX4_lengths 11 = .ok (.getfield 12, 3) := by decide +kernel
theorem dX4_lengths_14 : decode cX4_lengths 14 = .ok (.invokestatic 236, 3) := by decide +kernel
theorem dX4_lengths_17 : decode cX4_lengths 17 = .ok (.goto 11, 3) := by decide +kernel
theorem dX4_lengths_20 : decode cX4_lengths 20 = .ok (.aload_n 0, 1) := by decide +kernel
theorem dX4_lengths_21 : decode cX4_lengths 21 = .ok (.getfield 12, 3) := by decide +kernel
theorem dX4_lengths_24 : decode cX4_lengths 24 = .ok (.iload_n 1, 1) := by decide +kernel
theorem dX4_lengths_25 : decode cX4_lengths 25 = .ok (.invokestatic 240, 3) := by decide +kernel
theorem dX4_lengths_28 : decode cX4_lengths 28 = .ok (.ireturn, 1) := by decide +kernel
set_option maxRecDepth 20000 in
theorem ggX4_count_X3_blocksIn : GoodIn wsX4_count wsX3_blocksIn := goodIn_r _ [17, 18, 19, 50, 51, 52, 53, 54, 55, 56, 57, 58, 59, 60, 61, 62] (by decide +kernel) (by decide +kernel)
set_option maxRecDepth 20000 in
theorem gX4_count_X3_blocksIn : GoodIn wsX4_count (wsV RX4 209 RX3 yX3_blocksIn wsX3_blocksIn) := goodIn_app (goodIn_of _ (by decide +kernel)) ggX4_count_X3_blocksIn
set_option maxRecDepth 20000 in
theorem ggX4_count_X3_wearOfAll : GoodIn wsX4_count wsX3_wearOfAll := goodIn_r _ [23, 18, 24, 50, 51, 52, 53, 54, 55, 56, 57, 58, 59, 60, 61, 62] (by decide +kernel) (by decide +kernel)
set_option maxRecDepth 20000 in
theorem gX4_count_X3_wearOfAll : GoodIn wsX4_count (wsV RX4 252 RX3 yX3_wearOfAll wsX3_wearOfAll) := goodIn_app (goodIn_of _ (by decide +kernel)) ggX4_count_X3_wearOfAll
set_option maxRecDepth 20000 in
theorem ggX4_count_X3_blocksOfGrade : GoodIn wsX4_count wsX3_blocksOfGrade := goodIn_r _ [28, 18, 29, 30, 31, 16, 32, 33, 34, 35, 36, 37, 38, 39, 40, 41, 42, 43, 44, 45, 24, 50, 51, 52, 53, 54, 55, 56, 57, 58, 59, 60, 61, 62] (by decide +kernel) (by decide +kernel)
set_option maxRecDepth 20000 in
theorem gX4_count_X3_blocksOfGrade : GoodIn wsX4_count (wsV RX4 258 RX3 yX3_blocksOfGrade wsX3_blocksOfGrade) := goodIn_app (goodIn_of _ (by decide +kernel)) ggX4_count_X3_blocksOfGrade
theorem dX4_count_0 : decode cX4_count 0 = .ok (.iload_n 1, 1) := by decide +kernel
theorem dX4_count_1 : decode cX4_count 1 = .ok (.tableswitch 137 0 9 #[55, 63, 72, 80, 88, 96, 104, 112, 121, 129], 55) := by decide +kernel
theorem dX4_count_56 : decode cX4_count 56 = .ok (.aload_n 0, 1) := by decide +kernel
theorem dX4_count_57 : decode cX4_count 57 = .ok (.getfield 12, 3) := by decide +kernel
theorem dX4_count_60 : decode cX4_count 60 = .ok (.getfield 68, 3) := by decide +kernel
theorem dX4_count_63 : decode cX4_count 63 = .ok (.ireturn, 1) := by decide +kernel
theorem dX4_count_64 : decode cX4_count 64 = .ok (.aload_n 0, 1) := by decide +kernel
theorem dX4_count_65 : decode cX4_count 65 = .ok (.getfield 12, 3) := by decide +kernel
theorem dX4_count_68 : decode cX4_count 68 = .ok (.iconst (-1), 1) := by decide +kernel
theorem dX4_count_69 : decode cX4_count 69 = .ok (.invokevirtual 209, 3) := by decide +kernel
theorem dX4_count_72 : decode cX4_count 72 = .ok (.ireturn, 1) := by decide +kernel
theorem dX4_count_73 : decode cX4_count 73 = .ok (.aload_n 0, 1) := by decide +kernel
theorem dX4_count_74 : decode cX4_count 74 = .ok (.getfield 12, 3) := by decide +kernel
theorem dX4_count_77 : decode cX4_count 77 = .ok (.getfield 243, 3) := by decide +kernel
theorem dX4_count_80 : decode cX4_count 80 = .ok (.ireturn, 1) := by decide +kernel
theorem dX4_count_81 : decode cX4_count 81 = .ok (.aload_n 0, 1) := by decide +kernel
theorem dX4_count_82 : decode cX4_count 82 = .ok (.getfield 12, 3) := by decide +kernel
theorem dX4_count_85 : decode cX4_count 85 = .ok (.getfield 246, 3) := by decide +kernel
theorem dX4_count_88 : decode cX4_count 88 = .ok (.ireturn, 1) := by decide +kernel
theorem dX4_count_89 : decode cX4_count 89 = .ok (.aload_n 0, 1) := by decide +kernel
theorem dX4_count_90 : decode cX4_count 90 = .ok (.getfield 12, 3) := by decide +kernel
theorem dX4_count_93 : decode cX4_count 93 = .ok (.getfield 249, 3) := by decide +kernel
theorem dX4_count_96 : decode cX4_count 96 = .ok (.ireturn, 1) := by decide +kernel
theorem dX4_count_97 : decode cX4_count 97 = .ok (.aload_n 0, 1) := by decide +kernel
theorem dX4_count_98 : decode cX4_count 98 = .ok (.getfield 12, 3) := by decide +kernel
theorem dX4_count_101 : decode cX4_count 101 = .ok (.invokevirtual 252, 3) := by decide +kernel
theorem dX4_count_104 : decode cX4_count 104 = .ok (.ireturn, 1) := by decide +kernel
theorem dX4_count_105 : decode cX4_count 105 = .ok (.aload_n 0, 1) := by decide +kernel
theorem dX4_count_106 : decode cX4_count 106 = .ok (.getfield 12, 3) := by decide +kernel
theorem dX4_count_109 : decode cX4_count 109 = .ok (.getfield 255, 3) := by decide +kernel
theorem dX4_count_112 : decode cX4_count 112 = .ok (.ireturn, 1) := by decide +kernel
theorem dX4_count_113 : decode cX4_count 113 = .ok (.aload_n 0, 1) := by decide +kernel
theorem dX4_count_114 : decode cX4_count 114 = .ok (.getfield 12, 3) := by decide +kernel
theorem dX4_count_117 : decode cX4_count 117 = .ok (.iconst 3, 1) := by decide +kernel
theorem dX4_count_118 : decode cX4_count 118 = .ok (.invokevirtual 258, 3) := by decide +kernel
theorem dX4_count_121 : decode cX4_count 121 = .ok (.ireturn, 1) := by decide +kernel
theorem dX4_count_122 : decode cX4_count 122 = .ok (.aload_n 0, 1) := by decide +kernel
theorem dX4_count_123 : decode cX4_count 123 = .ok (.getfield 19, 3) := by decide +kernel
theorem dX4_count_126 : decode cX4_count 126 = .ok (.getfield 173, 3) := by decide +kernel
theorem dX4_count_129 : decode cX4_count 129 = .ok (.ireturn, 1) := by decide +kernel
theorem dX4_count_130 : decode cX4_count 130 = .ok (.aload_n 0, 1) := by decide +kernel
theorem dX4_count_131 : decode cX4_count 131 = .ok (.getfield 30, 3) := by decide +kernel
theorem dX4_count_134 : decode cX4_count 134 = .ok (.getfield 131, 3) := by decide +kernel
theorem dX4_count_137 : decode cX4_count 137 = .ok (.ireturn, 1) := by decide +kernel
theorem dX4_count_138 : decode cX4_count 138 = .ok (.new 145, 3) := by decide +kernel
theorem dX4_count_141 : decode cX4_count 141 = .ok (.dup, 1) := by decide +kernel
theorem dX4_count_142 : decode cX4_count 142 = .ok (.ldc_w 261, 3) := by decide +kernel
theorem dX4_count_145 : decode cX4_count 145 = .ok (.invokespecial 149, 3) := by decide +kernel
theorem dX4_count_148 : decode cX4_count 148 = .ok (.athrow, 1) := by decide +kernel
set_option maxRecDepth 20000 in
theorem ggX4_setting_X4_checkSetting : GoodIn wsX4_setting wsX4_checkSetting := goodIn_ca (goodIn_r _ [6, 7, 8] (by decide +kernel) (by decide +kernel)) (goodIn_sub (fun _ h => List.mem_cons_of_mem _ (List.mem_append_right _ h)) (by decide +kernel))
set_option maxRecDepth 20000 in
theorem gX4_setting_X4_checkSetting : GoodIn wsX4_setting (va_wsS RX4 94 yX4_checkSetting wsX4_checkSetting) := goodIn_app (goodIn_of _ (by decide +kernel)) ggX4_setting_X4_checkSetting
theorem dX4_setting_0 : decode cX4_setting 0 = .ok (.iload_n 1, 1) := by decide +kernel
theorem dX4_setting_1 : decode cX4_setting 1 = .ok (.invokestatic 94, 3) := by decide +kernel
theorem dX4_setting_4 : decode cX4_setting 4 = .ok (.aload_n 0, 1) := by decide +kernel
theorem dX4_setting_5 : decode cX4_setting 5 = .ok (.getfield 12, 3) := by decide +kernel
theorem dX4_setting_8 : decode cX4_setting 8 = .ok (.getfield 100, 3) := by decide +kernel
theorem dX4_setting_11 : decode cX4_setting 11 = .ok (.iload_n 1, 1) := by decide +kernel
theorem dX4_setting_12 : decode cX4_setting 12 = .ok (.iaload, 1) := by decide +kernel
theorem dX4_setting_13 : decode cX4_setting 13 = .ok (.ireturn, 1) := by decide +kernel
set_option maxRecDepth 20000 in
theorem ggX4_refusal_X4_checkStack : GoodIn wsX4_refusal wsX4_checkStack := goodIn_ca (goodIn_r _ [5, 6, 7] (by decide +kernel) (by decide +kernel)) (goodIn_sub (fun _ h => List.mem_cons_of_mem _ (List.mem_append_right _ h)) (by decide +kernel))
set_option maxRecDepth 20000 in
theorem gX4_refusal_X4_checkStack : GoodIn wsX4_refusal (va_wsS RX4 103 yX4_checkStack wsX4_checkStack) := goodIn_app (goodIn_of _ (by decide +kernel)) ggX4_refusal_X4_checkStack
set_option maxRecDepth 20000 in
theorem ggX4_refusal_X4_checkBlock : GoodIn wsX4_refusal wsX4_checkBlock := goodIn_ca (goodIn_r _ [11, 6, 7, 1, 12, 13, 14, 15, 16, 17, 62, 63, 64, 65, 66, 67, 68, 69, 70, 71, 72, 73, 74, 75, 76, 77, 78] (by decide +kernel) (by decide +kernel)) (goodIn_sub (fun _ h => List.mem_cons_of_mem _ (List.mem_append_right _ h)) (by decide +kernel))
set_option maxRecDepth 20000 in
theorem gX4_refusal_X4_checkBlock : GoodIn wsX4_refusal (wsV RX4 58 RX4 yX4_checkBlock wsX4_checkBlock) := goodIn_app (goodIn_of _ (by decide +kernel)) ggX4_refusal_X4_checkBlock
set_option maxRecDepth 20000 in
theorem ggX4_refusal_X3_reasonToRefuse : GoodIn wsX4_refusal wsX3_reasonToRefuse := goodIn_r _ [21, 22, 23, 24, 25, 26, 15, 27, 28, 29, 30, 31, 32, 33, 34, 35, 36, 17, 37, 38, 39, 40, 41, 42, 43, 44, 45, 46, 47, 48, 49, 50, 51, 52, 53, 54, 55, 56, 57, 58, 59, 60, 61, 66, 67, 68, 69, 70, 71, 72, 73, 74, 75, 76, 77, 78] (by decide +kernel) (by decide +kernel)
set_option maxRecDepth 20000 in
theorem gX4_refusal_X3_reasonToRefuse : GoodIn wsX4_refusal (wsV RX4 263 RX3 yX3_reasonToRefuse wsX3_reasonToRefuse) := goodIn_app (goodIn_of _ (by decide +kernel)) ggX4_refusal_X3_reasonToRefuse
theorem dX4_refusal_0 : decode cX4_refusal 0 = .ok (.iload_n 1, 1) := by decide +kernel
theorem dX4_refusal_1 : decode cX4_refusal 1 = .ok (.invokestatic 103, 3) := by decide +kernel
theorem dX4_refusal_4 : decode cX4_refusal 4 = .ok (.aload_n 0, 1) := by decide +kernel
theorem dX4_refusal_5 : decode cX4_refusal 5 = .ok (.iload_n 2, 1) := by decide +kernel
theorem dX4_refusal_6 : decode cX4_refusal 6 = .ok (.invokevirtual 58, 3) := by decide +kernel
theorem dX4_refusal_9 : decode cX4_refusal 9 = .ok (.aload_n 0, 1) := by decide +kernel
theorem dX4_refusal_10 : decode cX4_refusal 10 = .ok (.getfield 12, 3) := by decide +kernel
theorem dX4_refusal_13 : decode cX4_refusal 13 = .ok (.iload_n 1, 1) := by decide +kernel
theorem dX4_refusal_14 : decode cX4_refusal 14 = .ok (.iload_n 2, 1) := by decide +kernel
theorem dX4_refusal_15 : decode cX4_refusal 15 = .ok (.invokevirtual 263, 3) := by decide +kernel
theorem dX4_refusal_18 : decode cX4_refusal 18 = .ok (.ireturn, 1) := by decide +kernel
set_option maxRecDepth 20000 in
theorem ggX4_fewest_X4_checkLength : GoodIn wsX4_fewest wsX4_checkLength := goodIn_ca (goodIn_r _ [5, 6, 7, 8, 4, 9, 10, 11] (by decide +kernel) (by decide +kernel)) (goodIn_sub (fun _ h => List.mem_cons_of_mem _ (List.mem_append_right _ h)) (by decide +kernel))
set_option maxRecDepth 20000 in
theorem gX4_fewest_X4_checkLength : GoodIn wsX4_fewest (va_wsS RX4 117 yX4_checkLength wsX4_checkLength) := goodIn_app (goodIn_of _ (by decide +kernel)) ggX4_fewest_X4_checkLength
set_option maxRecDepth 20000 in
theorem ggX4_fewest_X4_checkRange : GoodIn wsX4_fewest wsX4_checkRange := goodIn_ca (goodIn_r _ [9, 10, 11] (by decide +kernel) (by decide +kernel)) (goodIn_sub (fun _ h => List.mem_cons_of_mem _ (List.mem_append_right _ h)) (by decide +kernel))
set_option maxRecDepth 20000 in
theorem gX4_fewest_X4_checkRange : GoodIn wsX4_fewest (va_wsS RX4 35 yX4_checkRange wsX4_checkRange) := goodIn_app (goodIn_of _ (by decide +kernel)) ggX4_fewest_X4_checkRange
set_option maxRecDepth 20000 in
theorem ggX4_fewest_X0_fewestFor : GoodIn wsX4_fewest wsX0_fewestFor := goodIn_r _ [15, 16, 17, 18, 19, 20, 21, 22, 23, 24, 25, 14, 26, 27, 39, 40, 41, 42, 43, 44, 45, 46, 47, 48, 49, 50, 51] (by decide +kernel) (by decide +kernel)
set_option maxRecDepth 20000 in
theorem gX4_fewest_X0_fewestFor : GoodIn wsX4_fewest (va_wsS RX4 122 yX0_fewestFor wsX0_fewestFor) := goodIn_app (goodIn_of _ (by decide +kernel)) ggX4_fewest_X0_fewestFor
set_option maxRecDepth 20000 in
theorem ggX4_fewest_J6_bitCount_0f7a4 : GoodIn wsX4_fewest wsJ6_bitCount_0f7a4 := goodIn_r _ [31, 32, 33, 34] (by decide +kernel) (by decide +kernel)
set_option maxRecDepth 20000 in
theorem gX4_fewest_J6_bitCount_0f7a4 : GoodIn wsX4_fewest (va_wsS RX4 266 yJ6_bitCount_0f7a4 wsJ6_bitCount_0f7a4) := goodIn_app (goodIn_of _ (by decide +kernel)) ggX4_fewest_J6_bitCount_0f7a4
theorem dX4_fewest_0 : decode cX4_fewest 0 = .ok (.iload_n 1, 1) := by decide +kernel
theorem dX4_fewest_1 : decode cX4_fewest 1 = .ok (.invokestatic 117, 3) := by decide +kernel
theorem dX4_fewest_4 : decode cX4_fewest 4 = .ok (.iload_n 2, 1) := by decide +kernel
theorem dX4_fewest_5 : decode cX4_fewest 5 = .ok (.iconst 0, 1) := by decide +kernel
theorem dX4_fewest_6 : decode cX4_fewest 6 = .ok (.iconst 1, 1) := by decide +kernel
theorem dX4_fewest_7 : decode cX4_fewest 7 = .ok (.invokestatic 35, 3) := by decide +kernel
theorem dX4_fewest_10 : decode cX4_fewest 10 = .ok (.aload_n 0, 1) := by decide +kernel
theorem dX4_fewest_11 : decode cX4_fewest 11 = .ok (.getfield 12, 3) := by decide +kernel
theorem dX4_fewest_14 : decode cX4_fewest 14 = .ok (.iload_n 1, 1) := by decide +kernel
theorem dX4_fewest_15 : decode cX4_fewest 15 = .ok (.invokestatic 122, 3) := by decide +kernel
theorem dX4_fewest_18 : decode cX4_fewest 18 = .ok (.istore_n 3, 1) := by decide +kernel
theorem dX4_fewest_19 : decode cX4_fewest 19 = .ok (.iload_n 3, 1) := by decide +kernel
theorem dX4_fewest_20 : decode cX4_fewest 20 = .ok (.ifCond .ne 5, 3) := by decide +kernel
theorem dX4_fewest_23 : decode cX4_fewest 23 = .ok (.iconst (-1), 1) := by decide +kernel
theorem dX4_fewest_24 : decode cX4_fewest 24 = .ok (.ireturn, 1) := by decide +kernel
theorem dX4_fewest_25 : decode cX4_fewest 25 = .ok (.iload_n 2, 1) := by decide +kernel
theorem dX4_fewest_26 : decode cX4_fewest 26 = .ok (.ifCond .ne 10, 3) := by decide +kernel
theorem dX4_fewest_29 : decode cX4_fewest 29 = .ok (.iload_n 3, 1) := by decide +kernel
theorem dX4_fewest_30 : decode cX4_fewest 30 = .ok (.invokestatic 266, 3) := by decide +kernel
theorem dX4_fewest_33 : decode cX4_fewest 33 = .ok (.goto 4, 3) := by decide +kernel
theorem dX4_fewest_36 : decode cX4_fewest 36 = .ok (.iload_n 3, 1) := by decide +kernel
theorem dX4_fewest_37 : decode cX4_fewest 37 = .ok (.ireturn, 1) := by decide +kernel
set_option maxRecDepth 20000 in
theorem ggX4_oldWay_X4_checkLength : GoodIn wsX4_oldWay wsX4_checkLength := goodIn_ca (goodIn_r _ [5, 6, 7, 8, 4, 9, 10, 11] (by decide +kernel) (by decide +kernel)) (goodIn_sub (fun _ h => List.mem_cons_of_mem _ (List.mem_append_right _ h)) (by decide +kernel))
set_option maxRecDepth 20000 in
theorem gX4_oldWay_X4_checkLength : GoodIn wsX4_oldWay (va_wsS RX4 117 yX4_checkLength wsX4_checkLength) := goodIn_app (goodIn_of _ (by decide +kernel)) ggX4_oldWay_X4_checkLength
set_option maxRecDepth 20000 in
theorem ggX4_oldWay_X4_checkRange : GoodIn wsX4_oldWay wsX4_checkRange := goodIn_ca (goodIn_r _ [9, 10, 11] (by decide +kernel) (by decide +kernel)) (goodIn_sub (fun _ h => List.mem_cons_of_mem _ (List.mem_append_right _ h)) (by decide +kernel))
set_option maxRecDepth 20000 in
theorem gX4_oldWay_X4_checkRange : GoodIn wsX4_oldWay (va_wsS RX4 35 yX4_checkRange wsX4_checkRange) := goodIn_app (goodIn_of _ (by decide +kernel)) ggX4_oldWay_X4_checkRange
set_option maxRecDepth 20000 in
theorem ggX4_oldWay_X0_takenByOldWay : GoodIn wsX4_oldWay wsX0_takenByOldWay := goodIn_r _ [15, 16, 17, 18, 14, 19, 20, 21, 22, 23, 24, 25, 26, 27, 28, 29, 47, 48, 49, 50, 51, 52, 53, 54, 55, 56, 57, 58, 59] (by decide +kernel) (by decide +kernel)
set_option maxRecDepth 20000 in
theorem gX4_oldWay_X0_takenByOldWay : GoodIn wsX4_oldWay (va_wsS RX4 271 yX0_takenByOldWay wsX0_takenByOldWay) := goodIn_app (goodIn_of _ (by decide +kernel)) ggX4_oldWay_X0_takenByOldWay
set_option maxRecDepth 20000 in
theorem ggX4_oldWay_X3_nominalOfSet : GoodIn wsX4_oldWay wsX3_nominalOfSet := goodIn_r _ [33, 34, 35, 47, 48, 49, 50, 51, 52, 53, 54, 55, 56, 57, 58, 59] (by decide +kernel) (by decide +kernel)
set_option maxRecDepth 20000 in
theorem gX4_oldWay_X3_nominalOfSet : GoodIn wsX4_oldWay (wsV RX4 212 RX3 yX3_nominalOfSet wsX3_nominalOfSet) := goodIn_app (goodIn_of _ (by decide +kernel)) ggX4_oldWay_X3_nominalOfSet
set_option maxRecDepth 20000 in
theorem ggX4_oldWay_J6_bitCount_0f7a4 : GoodIn wsX4_oldWay wsJ6_bitCount_0f7a4 := goodIn_r _ [39, 40, 41, 42] (by decide +kernel) (by decide +kernel)
set_option maxRecDepth 20000 in
theorem gX4_oldWay_J6_bitCount_0f7a4 : GoodIn wsX4_oldWay (va_wsS RX4 266 yJ6_bitCount_0f7a4 wsJ6_bitCount_0f7a4) := goodIn_app (goodIn_of _ (by decide +kernel)) ggX4_oldWay_J6_bitCount_0f7a4
theorem dX4_oldWay_0 : decode cX4_oldWay 0 = .ok (.iload_n 1, 1) := by decide +kernel
theorem dX4_oldWay_1 : decode cX4_oldWay 1 = .ok (.invokestatic 117, 3) := by decide +kernel
theorem dX4_oldWay_4 : decode cX4_oldWay 4 = .ok (.iload_n 2, 1) := by decide +kernel
theorem dX4_oldWay_5 : decode cX4_oldWay 5 = .ok (.iconst 0, 1) := by decide +kernel
theorem dX4_oldWay_6 : decode cX4_oldWay 6 = .ok (.iconst 2, 1) := by decide +kernel
theorem dX4_oldWay_7 : decode cX4_oldWay 7 = .ok (.invokestatic 35, 3) := by decide +kernel
theorem dX4_oldWay_10 : decode cX4_oldWay 10 = .ok (.aload_n 0, 1) := by decide +kernel
theorem dX4_oldWay_11 : decode cX4_oldWay 11 = .ok (.getfield 12, 3) := by decide +kernel
theorem dX4_oldWay_14 : decode cX4_oldWay 14 = .ok (.iload_n 1, 1) := by decide +kernel
theorem dX4_oldWay_15 : decode cX4_oldWay 15 = .ok (.invokestatic 271, 3) := by decide +kernel
theorem dX4_oldWay_18 : decode cX4_oldWay 18 = .ok (.istore_n 3, 1) := by decide +kernel
theorem dX4_oldWay_19 : decode cX4_oldWay 19 = .ok (.iload_n 1, 1) := by decide +kernel
theorem dX4_oldWay_20 : decode cX4_oldWay 20 = .ok (.aload_n 0, 1) := by decide +kernel
theorem dX4_oldWay_21 : decode cX4_oldWay 21 = .ok (.getfield 12, 3) := by decide +kernel
theorem dX4_oldWay_24 : decode cX4_oldWay 24 = .ok (.iload_n 3, 1) := by decide +kernel
theorem dX4_oldWay_25 : decode cX4_oldWay 25 = .ok (.invokevirtual 212, 3) := by decide +kernel
theorem dX4_oldWay_28 : decode cX4_oldWay 28 = .ok (.isub, 1) := by decide +kernel
theorem dX4_oldWay_29 : decode cX4_oldWay 29 = .ok (.istore 4, 2) := by decide +kernel
theorem dX4_oldWay_31 : decode cX4_oldWay 31 = .ok (.iload_n 2, 1) := by decide +kernel
theorem dX4_oldWay_32 : decode cX4_oldWay 32 = .ok (.iconst 2, 1) := by decide +kernel
theorem dX4_oldWay_33 : decode cX4_oldWay 33 = .ok (.if_icmp .ne 6, 3) := by decide +kernel
theorem dX4_oldWay_36 : decode cX4_oldWay 36 = .ok (.iload 4, 2) := by decide +kernel
theorem dX4_oldWay_38 : decode cX4_oldWay 38 = .ok (.ireturn, 1) := by decide +kernel
theorem dX4_oldWay_39 : decode cX4_oldWay 39 = .ok (.iload 4, 2) := by decide +kernel
theorem dX4_oldWay_41 : decode cX4_oldWay 41 = .ok (.ifCond .eq 5, 3) := by decide +kernel
theorem dX4_oldWay_44 : decode cX4_oldWay 44 = .ok (.iconst (-1), 1) := by decide +kernel
theorem dX4_oldWay_45 : decode cX4_oldWay 45 = .ok (.ireturn, 1) := by decide +kernel
theorem dX4_oldWay_46 : decode cX4_oldWay 46 = .ok (.iload_n 2, 1) := by decide +kernel
theorem dX4_oldWay_47 : decode cX4_oldWay 47 = .ok (.ifCond .ne 10, 3) := by decide +kernel
theorem dX4_oldWay_50 : decode cX4_oldWay 50 = .ok (.iload_n 3, 1) := by decide +kernel
theorem dX4_oldWay_51 : decode cX4_oldWay 51 = .ok (.invokestatic 266, 3) := by decide +kernel
theorem dX4_oldWay_54 : decode cX4_oldWay 54 = .ok (.goto 4, 3) := by decide +kernel
theorem dX4_oldWay_57 : decode cX4_oldWay 57 = .ok (.iload_n 3, 1) := by decide +kernel
theorem dX4_oldWay_58 : decode cX4_oldWay 58 = .ok (.ireturn, 1) := by decide +kernel
set_option maxRecDepth 20000 in
theorem ggX4_nearest_X4_checkLength : GoodIn wsX4_nearest wsX4_checkLength := goodIn_ca (goodIn_r _ [5, 6, 7, 8, 4, 9, 10, 11] (by decide +kernel) (by decide +kernel)) (goodIn_sub (fun _ h => List.mem_cons_of_mem _ (List.mem_append_right _ h)) (by decide +kernel))
set_option maxRecDepth 20000 in
theorem gX4_nearest_X4_checkLength : GoodIn wsX4_nearest (va_wsS RX4 117 yX4_checkLength wsX4_checkLength) := goodIn_app (goodIn_of _ (by decide +kernel)) ggX4_nearest_X4_checkLength
set_option maxRecDepth 20000 in
theorem ggX4_nearest_X0_nearestTo : GoodIn wsX4_nearest wsX0_nearestTo := goodIn_r _ [15, 16, 17, 18, 19, 20, 21, 22, 23, 24, 25, 14, 26, 27, 28, 29, 30, 31, 32, 33, 38, 39, 40, 41, 42, 43, 44, 45, 46, 47, 48, 49, 50] (by decide +kernel) (by decide +kernel)
set_option maxRecDepth 20000 in
theorem gX4_nearest_X0_nearestTo : GoodIn wsX4_nearest (va_wsS RX4 274 yX0_nearestTo wsX0_nearestTo) := goodIn_app (goodIn_of _ (by decide +kernel)) ggX4_nearest_X0_nearestTo
theorem dX4_nearest_0 : decode cX4_nearest 0 = .ok (.iload_n 1, 1) := by decide +kernel
theorem dX4_nearest_1 : decode cX4_nearest 1 = .ok (.invokestatic 117, 3) := by decide +kernel
theorem dX4_nearest_4 : decode cX4_nearest 4 = .ok (.aload_n 0, 1) := by decide +kernel
theorem dX4_nearest_5 : decode cX4_nearest 5 = .ok (.getfield 12, 3) := by decide +kernel
theorem dX4_nearest_8 : decode cX4_nearest 8 = .ok (.iload_n 1, 1) := by decide +kernel
theorem dX4_nearest_9 : decode cX4_nearest 9 = .ok (.invokestatic 274, 3) := by decide +kernel
theorem dX4_nearest_12 : decode cX4_nearest 12 = .ok (.ireturn, 1) := by decide +kernel
set_option maxRecDepth 20000 in
theorem ggX4_coolIn_X4_checkBlock : GoodIn wsX4_coolIn wsX4_checkBlock := goodIn_ca (goodIn_r _ [6, 7, 8, 1, 9, 10, 11, 12, 13, 14, 24, 25, 26, 27, 28, 29, 30, 31, 32, 33, 34, 35, 36, 37, 38, 39, 40] (by decide +kernel) (by decide +kernel)) (goodIn_sub (fun _ h => List.mem_cons_of_mem _ (List.mem_append_right _ h)) (by decide +kernel))
set_option maxRecDepth 20000 in
theorem gX4_coolIn_X4_checkBlock : GoodIn wsX4_coolIn (wsV RX4 58 RX4 yX4_checkBlock wsX4_checkBlock) := goodIn_app (goodIn_of _ (by decide +kernel)) ggX4_coolIn_X4_checkBlock
set_option maxRecDepth 20000 in
theorem ggX4_coolIn_X3_minutesUntilCool : GoodIn wsX4_coolIn wsX3_minutesUntilCool := goodIn_r _ [18, 19, 20, 21, 22, 12, 23, 28, 29, 30, 31, 32, 33, 34, 35, 36, 37, 38, 39, 40] (by decide +kernel) (by decide +kernel)
set_option maxRecDepth 20000 in
theorem gX4_coolIn_X3_minutesUntilCool : GoodIn wsX4_coolIn (wsV RX4 277 RX3 yX3_minutesUntilCool wsX3_minutesUntilCool) := goodIn_app (goodIn_of _ (by decide +kernel)) ggX4_coolIn_X3_minutesUntilCool
theorem dX4_coolIn_0 : decode cX4_coolIn 0 = .ok (.aload_n 0, 1) := by decide +kernel
theorem dX4_coolIn_1 : decode cX4_coolIn 1 = .ok (.iload_n 1, 1) := by decide +kernel
theorem dX4_coolIn_2 : decode cX4_coolIn 2 = .ok (.invokevirtual 58, 3) := by decide +kernel
theorem dX4_coolIn_5 : decode cX4_coolIn 5 = .ok (.aload_n 0, 1) := by decide +kernel
theorem dX4_coolIn_6 : decode cX4_coolIn 6 = .ok (.getfield 12, 3) := by decide +kernel
theorem dX4_coolIn_9 : decode cX4_coolIn 9 = .ok (.iload_n 1, 1) := by decide +kernel
theorem dX4_coolIn_10 : decode cX4_coolIn 10 = .ok (.invokevirtual 277, 3) := by decide +kernel
theorem dX4_coolIn_13 : decode cX4_coolIn 13 = .ok (.ireturn, 1) := by decide +kernel
set_option maxRecDepth 20000 in
theorem ggX4_lengthIn_X4_checkStack : GoodIn wsX4_lengthIn wsX4_checkStack := goodIn_ca (goodIn_r _ [5, 6, 7] (by decide +kernel) (by decide +kernel)) (goodIn_sub (fun _ h => List.mem_cons_of_mem _ (List.mem_append_left _ (List.mem_append_right _ h))) (by decide +kernel))
set_option maxRecDepth 20000 in
theorem gX4_lengthIn_X4_checkStack : GoodIn wsX4_lengthIn (va_wsS RX4 103 yX4_checkStack wsX4_checkStack) := goodIn_app (goodIn_of _ (by decide +kernel)) ggX4_lengthIn_X4_checkStack
set_option maxRecDepth 20000 in
theorem ggX4_lengthIn_X4_checkRange : GoodIn wsX4_lengthIn wsX4_checkRange := goodIn_ca (goodIn_r _ [10, 11, 12] (by decide +kernel) (by decide +kernel)) (goodIn_sub (fun _ h => List.mem_cons_of_mem _ (List.mem_append_right _ h)) (by decide +kernel))
set_option maxRecDepth 20000 in
theorem gX4_lengthIn_X4_checkRange : GoodIn wsX4_lengthIn (va_wsS RX4 35 yX4_checkRange wsX4_checkRange) := goodIn_app (goodIn_of _ (by decide +kernel)) ggX4_lengthIn_X4_checkRange
set_option maxRecDepth 20000 in
theorem ggX4_lengthIn_X3_trueLengthOfStack : GoodIn wsX4_lengthIn wsX3_trueLengthOfStack := goodIn_r _ [17, 18, 19, 20, 21, 22, 23, 16, 24, 25, 26, 27, 28, 29, 30, 31, 36, 37, 38, 39, 40, 41, 42, 43, 44, 45, 46, 47, 48] (by decide +kernel) (by decide +kernel)
set_option maxRecDepth 20000 in
theorem gX4_lengthIn_X3_trueLengthOfStack : GoodIn wsX4_lengthIn (wsV RX4 215 RX3 yX3_trueLengthOfStack wsX3_trueLengthOfStack) := goodIn_app (goodIn_of _ (by decide +kernel)) ggX4_lengthIn_X3_trueLengthOfStack
theorem dX4_lengthIn_0 : decode cX4_lengthIn 0 = .ok (.iload_n 1, 1) := by decide +kernel
theorem dX4_lengthIn_1 : decode cX4_lengthIn 1 = .ok (.invokestatic 103, 3) := by decide +kernel
theorem dX4_lengthIn_4 : decode cX4_lengthIn 4 = .ok (.iload_n 2, 1) := by decide +kernel
theorem dX4_lengthIn_5 : decode cX4_lengthIn 5 = .ok (.iconst 0, 1) := by decide +kernel
theorem dX4_lengthIn_6 : decode cX4_lengthIn 6 = .ok (.sipush 600, 3) := by decide +kernel
theorem dX4_lengthIn_9 : decode cX4_lengthIn 9 = .ok (.invokestatic 35, 3) := by decide +kernel
theorem dX4_lengthIn_12 : decode cX4_lengthIn 12 = .ok (.aload_n 0, 1) := by decide +kernel
theorem dX4_lengthIn_13 : decode cX4_lengthIn 13 = .ok (.getfield 12, 3) := by decide +kernel
theorem dX4_lengthIn_16 : decode cX4_lengthIn 16 = .ok (.iload_n 1, 1) := by decide +kernel
theorem dX4_lengthIn_17 : decode cX4_lengthIn 17 = .ok (.iload_n 2, 1) := by decide +kernel
theorem dX4_lengthIn_18 : decode cX4_lengthIn 18 = .ok (.invokevirtual 215, 3) := by decide +kernel
theorem dX4_lengthIn_21 : decode cX4_lengthIn 21 = .ok (.ireturn, 1) := by decide +kernel
set_option maxRecDepth 20000 in
theorem ggX4_meanError_X3_sizesOfErrors : GoodIn wsX4_meanError wsX3_sizesOfErrors := goodIn_r _ [7, 8, 9, 10, 11, 6, 12, 13, 14, 15, 16, 17, 18, 19, 20, 21, 22, 27, 28, 29, 30, 31, 32, 33, 34, 35, 36, 37, 38, 39] (by decide +kernel) (by decide +kernel)
set_option maxRecDepth 20000 in
theorem gX4_meanError_X3_sizesOfErrors : GoodIn wsX4_meanError (wsV RX4 280 RX3 yX3_sizesOfErrors wsX3_sizesOfErrors) := goodIn_app (goodIn_of _ (by decide +kernel)) ggX4_meanError_X3_sizesOfErrors
theorem dX4_meanError_0 : decode cX4_meanError 0 = .ok (.aload_n 0, 1) := by decide +kernel
theorem dX4_meanError_1 : decode cX4_meanError 1 = .ok (.getfield 12, 3) := by decide +kernel
theorem dX4_meanError_4 : decode cX4_meanError 4 = .ok (.getfield 68, 3) := by decide +kernel
theorem dX4_meanError_7 : decode cX4_meanError 7 = .ok (.ifCond .ne 5, 3) := by decide +kernel
theorem dX4_meanError_10 : decode cX4_meanError 10 = .ok (.dconst 0, 1) := by decide +kernel
theorem dX4_meanError_11 : decode cX4_meanError 11 = .ok (.dreturn, 1) := by decide +kernel
theorem dX4_meanError_12 : decode cX4_meanError 12 = .ok (.aload_n 0, 1) := by decide +kernel
theorem dX4_meanError_13 : decode cX4_meanError 13 = .ok (.getfield 12, 3) := by decide +kernel
theorem dX4_meanError_16 : decode cX4_meanError 16 = .ok (.invokevirtual 280, 3) := by decide +kernel
theorem dX4_meanError_19 : decode cX4_meanError 19 = .ok (.i2d, 1) := by decide +kernel
theorem dX4_meanError_20 : decode cX4_meanError 20 = .ok (.aload_n 0, 1) := by decide +kernel
theorem dX4_meanError_21 : decode cX4_meanError 21 = .ok (.getfield 12, 3) := by decide +kernel
theorem dX4_meanError_24 : decode cX4_meanError 24 = .ok (.getfield 68, 3) := by decide +kernel
theorem dX4_meanError_27 : decode cX4_meanError 27 = .ok (.i2d, 1) := by decide +kernel
theorem dX4_meanError_28 : decode cX4_meanError 28 = .ok (.ddiv, 1) := by decide +kernel
theorem dX4_meanError_29 : decode cX4_meanError 29 = .ok (.dreturn, 1) := by decide +kernel
theorem dX4_checkRange_0 : decode cX4_checkRange 0 = .ok (.iload_n 0, 1) := by decide +kernel
theorem dX4_checkRange_1 : decode cX4_checkRange 1 = .ok (.iload_n 1, 1) := by decide +kernel
theorem dX4_checkRange_2 : decode cX4_checkRange 2 = .ok (.if_icmp .lt 8, 3) := by decide +kernel
theorem dX4_checkRange_5 : decode cX4_checkRange 5 = .ok (.iload_n 0, 1) := by decide +kernel
theorem dX4_checkRange_6 : decode cX4_checkRange 6 = .ok (.iload_n 2, 1) := by decide +kernel
theorem dX4_checkRange_7 : decode cX4_checkRange 7 = .ok (.if_icmp .le 14, 3) := by decide +kernel
theorem dX4_checkRange_10 : decode cX4_checkRange 10 = .ok (.new 145, 3) := by decide +kernel
theorem dX4_checkRange_13 : decode cX4_checkRange 13 = .ok (.dup, 1) := by decide +kernel
theorem dX4_checkRange_14 : decode cX4_checkRange 14 = .ok (.ldc_w 283, 3) := by decide +kernel
theorem dX4_checkRange_17 : decode cX4_checkRange 17 = .ok (.invokespecial 149, 3) := by decide +kernel
theorem dX4_checkRange_20 : decode cX4_checkRange 20 = .ok (.athrow, 1) := by decide +kernel
theorem dX4_checkRange_21 : decode cX4_checkRange 21 = .ok (.return_, 1) := by decide +kernel
theorem dX4_checkLeast_0 : decode cX4_checkLeast 0 = .ok (.iload_n 0, 1) := by decide +kernel
theorem dX4_checkLeast_1 : decode cX4_checkLeast 1 = .ok (.iload_n 1, 1) := by decide +kernel
theorem dX4_checkLeast_2 : decode cX4_checkLeast 2 = .ok (.if_icmp .ge 14, 3) := by decide +kernel
theorem dX4_checkLeast_5 : decode cX4_checkLeast 5 = .ok (.new 145, 3) := by decide +kernel
theorem dX4_checkLeast_8 : decode cX4_checkLeast 8 = .ok (.dup, 1) := by decide +kernel
theorem dX4_checkLeast_9 : decode cX4_checkLeast 9 = .ok (.ldc_w 285, 3) := by decide +kernel
theorem dX4_checkLeast_12 : decode cX4_checkLeast 12 = .ok (.invokespecial 149, 3) := by decide +kernel
theorem dX4_checkLeast_15 : decode cX4_checkLeast 15 = .ok (.athrow, 1) := by decide +kernel
theorem dX4_checkLeast_16 : decode cX4_checkLeast 16 = .ok (.return_, 1) := by decide +kernel
set_option maxRecDepth 20000 in
theorem ggX4_checkLength_X4_checkRange : GoodIn wsX4_checkLength wsX4_checkRange := goodIn_ca (goodIn_r _ [5, 6, 7] (by decide +kernel) (by decide +kernel)) (goodIn_sub (fun _ h => List.mem_cons_of_mem _ (List.mem_append_right _ h)) (by decide +kernel))
set_option maxRecDepth 20000 in
theorem gX4_checkLength_X4_checkRange : GoodIn wsX4_checkLength (va_wsS RX4 35 yX4_checkRange wsX4_checkRange) := goodIn_app (goodIn_of _ (by decide +kernel)) ggX4_checkLength_X4_checkRange
theorem dX4_checkLength_0 : decode cX4_checkLength 0 = .ok (.iload_n 0, 1) := by decide +kernel
theorem dX4_checkLength_1 : decode cX4_checkLength 1 = .ok (.sipush 500, 3) := by decide +kernel
theorem dX4_checkLength_4 : decode cX4_checkLength 4 = .ok (.ldc_w 287, 3) := by decide +kernel
theorem dX4_checkLength_7 : decode cX4_checkLength 7 = .ok (.invokestatic 35, 3) := by decide +kernel
theorem dX4_checkLength_10 : decode cX4_checkLength 10 = .ok (.return_, 1) := by decide +kernel
theorem dX4_checkStack_0 : decode cX4_checkStack 0 = .ok (.iload_n 0, 1) := by decide +kernel
theorem dX4_checkStack_1 : decode cX4_checkStack 1 = .ok (.ifCond .lt 8, 3) := by decide +kernel
theorem dX4_checkStack_4 : decode cX4_checkStack 4 = .ok (.iload_n 0, 1) := by decide +kernel
theorem dX4_checkStack_5 : decode cX4_checkStack 5 = .ok (.iconst 3, 1) := by decide +kernel
theorem dX4_checkStack_6 : decode cX4_checkStack 6 = .ok (.if_icmp .lt 14, 3) := by decide +kernel
theorem dX4_checkStack_9 : decode cX4_checkStack 9 = .ok (.new 288, 3) := by decide +kernel
theorem dX4_checkStack_12 : decode cX4_checkStack 12 = .ok (.dup, 1) := by decide +kernel
theorem dX4_checkStack_13 : decode cX4_checkStack 13 = .ok (.ldc_w 290, 3) := by decide +kernel
theorem dX4_checkStack_16 : decode cX4_checkStack 16 = .ok (.invokespecial 292, 3) := by decide +kernel
theorem dX4_checkStack_19 : decode cX4_checkStack 19 = .ok (.athrow, 1) := by decide +kernel
theorem dX4_checkStack_20 : decode cX4_checkStack 20 = .ok (.return_, 1) := by decide +kernel
theorem dX4_checkSetting_0 : decode cX4_checkSetting 0 = .ok (.iload_n 0, 1) := by decide +kernel
theorem dX4_checkSetting_1 : decode cX4_checkSetting 1 = .ok (.ifCond .lt 8, 3) := by decide +kernel
theorem dX4_checkSetting_4 : decode cX4_checkSetting 4 = .ok (.iload_n 0, 1) := by decide +kernel
theorem dX4_checkSetting_5 : decode cX4_checkSetting 5 = .ok (.iconst 4, 1) := by decide +kernel
theorem dX4_checkSetting_6 : decode cX4_checkSetting 6 = .ok (.if_icmp .lt 14, 3) := by decide +kernel
theorem dX4_checkSetting_9 : decode cX4_checkSetting 9 = .ok (.new 288, 3) := by decide +kernel
theorem dX4_checkSetting_12 : decode cX4_checkSetting 12 = .ok (.dup, 1) := by decide +kernel
theorem dX4_checkSetting_13 : decode cX4_checkSetting 13 = .ok (.ldc_w 293, 3) := by decide +kernel
theorem dX4_checkSetting_16 : decode cX4_checkSetting 16 = .ok (.invokespecial 292, 3) := by decide +kernel
theorem dX4_checkSetting_19 : decode cX4_checkSetting 19 = .ok (.athrow, 1) := by decide +kernel
theorem dX4_checkSetting_20 : decode cX4_checkSetting 20 = .ok (.return_, 1) := by decide +kernel
set_option maxRecDepth 20000 in
theorem ggX4_checkBlock_X3_hasBlock : GoodIn wsX4_checkBlock wsX3_hasBlock := goodIn_r _ [8, 9, 14, 15, 16, 17, 18, 19, 20, 21, 22, 23, 24, 25, 26] (by decide +kernel) (by decide +kernel)
set_option maxRecDepth 20000 in
theorem gX4_checkBlock_X3_hasBlock : GoodIn wsX4_checkBlock (wsV RX4 170 RX3 yX3_hasBlock wsX3_hasBlock) := goodIn_app (goodIn_of _ (by decide +kernel)) ggX4_checkBlock_X3_hasBlock
theorem dX4_checkBlock_0 : decode cX4_checkBlock 0 = .ok (.aload_n 0, 1) := by decide +kernel
theorem dX4_checkBlock_1 : decode cX4_checkBlock 1 = .ok (.getfield 12, 3) := by decide +kernel
theorem dX4_checkBlock_4 : decode cX4_checkBlock 4 = .ok (.iload_n 1, 1) := by decide +kernel
theorem dX4_checkBlock_5 : decode cX4_checkBlock 5 = .ok (.invokevirtual 170, 3) := by decide +kernel
theorem dX4_checkBlock_8 : decode cX4_checkBlock 8 = .ok (.ifCond .ne 14, 3) := by decide +kernel
theorem dX4_checkBlock_11 : decode cX4_checkBlock 11 = .ok (.new 288, 3) := by decide +kernel
theorem dX4_checkBlock_14 : decode cX4_checkBlock 14 = .ok (.dup, 1) := by decide +kernel
theorem dX4_checkBlock_15 : decode cX4_checkBlock 15 = .ok (.ldc_w 295, 3) := by decide +kernel
theorem dX4_checkBlock_18 : decode cX4_checkBlock 18 = .ok (.invokespecial 292, 3) := by decide +kernel
theorem dX4_checkBlock_21 : decode cX4_checkBlock 21 = .ok (.athrow, 1) := by decide +kernel
theorem dX4_checkBlock_22 : decode cX4_checkBlock 22 = .ok (.return_, 1) := by decide +kernel
set_option maxRecDepth 20000 in
theorem ggX4_checkFree_X3_isFree : GoodIn wsX4_checkFree wsX3_isFree := goodIn_r _ [8, 9, 14, 15, 16, 17, 18, 19, 20, 21, 22, 23, 24, 25, 26] (by decide +kernel) (by decide +kernel)
set_option maxRecDepth 20000 in
theorem gX4_checkFree_X3_isFree : GoodIn wsX4_checkFree (wsV RX4 297 RX3 yX3_isFree wsX3_isFree) := goodIn_app (goodIn_of _ (by decide +kernel)) ggX4_checkFree_X3_isFree
theorem dX4_checkFree_0 : decode cX4_checkFree 0 = .ok (.aload_n 0, 1) := by decide +kernel
theorem dX4_checkFree_1 : decode cX4_checkFree 1 = .ok (.getfield 12, 3) := by decide +kernel
theorem dX4_checkFree_4 : decode cX4_checkFree 4 = .ok (.iload_n 1, 1) := by decide +kernel
theorem dX4_checkFree_5 : decode cX4_checkFree 5 = .ok (.invokevirtual 297, 3) := by decide +kernel
theorem dX4_checkFree_8 : decode cX4_checkFree 8 = .ok (.ifCond .ne 14, 3) := by decide +kernel
theorem dX4_checkFree_11 : decode cX4_checkFree 11 = .ok (.new 43, 3) := by decide +kernel
theorem dX4_checkFree_14 : decode cX4_checkFree 14 = .ok (.dup, 1) := by decide +kernel
theorem dX4_checkFree_15 : decode cX4_checkFree 15 = .ok (.ldc_w 300, 3) := by decide +kernel
theorem dX4_checkFree_18 : decode cX4_checkFree 18 = .ok (.invokespecial 47, 3) := by decide +kernel
theorem dX4_checkFree_21 : decode cX4_checkFree 21 = .ok (.athrow, 1) := by decide +kernel
theorem dX4_checkFree_22 : decode cX4_checkFree 22 = .ok (.return_, 1) := by decide +kernel
theorem dX5_init_0 : decode cX5_init 0 = .ok (.aload_n 0, 1) := by decide +kernel
theorem dX5_init_1 : decode cX5_init 1 = .ok (.invokespecial 1, 3) := by decide +kernel
theorem dX5_init_4 : decode cX5_init 4 = .ok (.aload_n 0, 1) := by decide +kernel
theorem dX5_init_5 : decode cX5_init 5 = .ok (.sipush 149, 3) := by decide +kernel
theorem dX5_init_8 : decode cX5_init 8 = .ok (.newarray .int, 2) := by decide +kernel
theorem dX5_init_10 : decode cX5_init 10 = .ok (.putfield 7, 3) := by decide +kernel
theorem dX5_init_13 : decode cX5_init 13 = .ok (.aload_n 0, 1) := by decide +kernel
theorem dX5_init_14 : decode cX5_init 14 = .ok (.sipush 894, 3) := by decide +kernel
theorem dX5_init_17 : decode cX5_init 17 = .ok (.newarray .int, 2) := by decide +kernel
theorem dX5_init_19 : decode cX5_init 19 = .ok (.putfield 13, 3) := by decide +kernel
theorem dX5_init_22 : decode cX5_init 22 = .ok (.aload_n 0, 1) := by decide +kernel
theorem dX5_init_23 : decode cX5_init 23 = .ok (.sipush 298, 3) := by decide +kernel
theorem dX5_init_26 : decode cX5_init 26 = .ok (.newarray .int, 2) := by decide +kernel
theorem dX5_init_28 : decode cX5_init 28 = .ok (.putfield 16, 3) := by decide +kernel
theorem dX5_init_31 : decode cX5_init 31 = .ok (.aload_n 0, 1) := by decide +kernel
theorem dX5_init_32 : decode cX5_init 32 = .ok (.iconst 2, 1) := by decide +kernel
theorem dX5_init_33 : decode cX5_init 33 = .ok (.newarray .boolean, 2) := by decide +kernel
theorem dX5_init_35 : decode cX5_init 35 = .ok (.putfield 19, 3) := by decide +kernel
theorem dX5_init_38 : decode cX5_init 38 = .ok (.aload_n 0, 1) := by decide +kernel
theorem dX5_init_39 : decode cX5_init 39 = .ok (.bipush 20, 2) := by decide +kernel
theorem dX5_init_41 : decode cX5_init 41 = .ok (.newarray .int, 2) := by decide +kernel
theorem dX5_init_43 : decode cX5_init 43 = .ok (.putfield 23, 3) := by decide +kernel
theorem dX5_init_46 : decode cX5_init 46 = .ok (.aload_n 0, 1) := by decide +kernel
theorem dX5_init_47 : decode cX5_init 47 = .ok (.bipush 60, 2) := by decide +kernel
theorem dX5_init_49 : decode cX5_init 49 = .ok (.newarray .int, 2) := by decide +kernel
theorem dX5_init_51 : decode cX5_init 51 = .ok (.putfield 26, 3) := by decide +kernel
theorem dX5_init_54 : decode cX5_init 54 = .ok (.aload_n 0, 1) := by decide +kernel
theorem dX5_init_55 : decode cX5_init 55 = .ok (.bipush 24, 2) := by decide +kernel
theorem dX5_init_57 : decode cX5_init 57 = .ok (.newarray .int, 2) := by decide +kernel
theorem dX5_init_59 : decode cX5_init 59 = .ok (.putfield 29, 3) := by decide +kernel
theorem dX5_init_62 : decode cX5_init 62 = .ok (.aload_n 0, 1) := by decide +kernel
theorem dX5_init_63 : decode cX5_init 63 = .ok (.bipush 24, 2) := by decide +kernel
theorem dX5_init_65 : decode cX5_init 65 = .ok (.newarray .int, 2) := by decide +kernel
theorem dX5_init_67 : decode cX5_init 67 = .ok (.putfield 32, 3) := by decide +kernel
theorem dX5_init_70 : decode cX5_init 70 = .ok (.aload_n 0, 1) := by decide +kernel
theorem dX5_init_71 : decode cX5_init 71 = .ok (.bipush 24, 2) := by decide +kernel
theorem dX5_init_73 : decode cX5_init 73 = .ok (.newarray .int, 2) := by decide +kernel
theorem dX5_init_75 : decode cX5_init 75 = .ok (.putfield 35, 3) := by decide +kernel
theorem dX5_init_78 : decode cX5_init 78 = .ok (.aload_n 0, 1) := by decide +kernel
theorem dX5_init_79 : decode cX5_init 79 = .ok (.getfield 7, 3) := by decide +kernel
theorem dX5_init_82 : decode cX5_init 82 = .ok (.iconst 0, 1) := by decide +kernel
theorem dX5_init_83 : decode cX5_init 83 = .ok (.bipush 10, 2) := by decide +kernel
theorem dX5_init_85 : decode cX5_init 85 = .ok (.iastore, 1) := by decide +kernel
theorem dX5_init_86 : decode cX5_init 86 = .ok (.aload_n 0, 1) := by decide +kernel
theorem dX5_init_87 : decode cX5_init 87 = .ok (.getfield 7, 3) := by decide +kernel
theorem dX5_init_90 : decode cX5_init 90 = .ok (.iconst 1, 1) := by decide +kernel
theorem dX5_init_91 : decode cX5_init 91 = .ok (.sipush 300, 3) := by decide +kernel
theorem dX5_init_94 : decode cX5_init 94 = .ok (.iastore, 1) := by decide +kernel
theorem dX5_init_95 : decode cX5_init 95 = .ok (.aload_n 0, 1) := by decide +kernel
theorem dX5_init_96 : decode cX5_init 96 = .ok (.getfield 7, 3) := by decide +kernel
theorem dX5_init_99 : decode cX5_init 99 = .ok (.iconst 2, 1) := by decide +kernel
theorem dX5_init_100 : decode cX5_init 100 = .ok (.iconst 3, 1) := by decide +kernel
theorem dX5_init_101 : decode cX5_init 101 = .ok (.iastore, 1) := by decide +kernel
theorem dX5_init_102 : decode cX5_init 102 = .ok (.aload_n 0, 1) := by decide +kernel
theorem dX5_init_103 : decode cX5_init 103 = .ok (.getfield 7, 3) := by decide +kernel
theorem dX5_init_106 : decode cX5_init 106 = .ok (.iconst 3, 1) := by decide +kernel
theorem dX5_init_107 : decode cX5_init 107 = .ok (.bipush 40, 2) := by decide +kernel
theorem dX5_init_109 : decode cX5_init 109 = .ok (.iastore, 1) := by decide +kernel
theorem dX5_init_110 : decode cX5_init 110 = .ok (.return_, 1) := by decide +kernel
theorem dX5_thrown_0 : decode cX5_thrown 0 = .ok (.aload_n 0, 1) := by decide +kernel
theorem dX5_thrown_1 : decode cX5_thrown 1 = .ok (.getfield 38, 3) := by decide +kernel
theorem dX5_thrown_4 : decode cX5_thrown 4 = .ok (.ireturn, 1) := by decide +kernel
theorem dX5_fails_0 : decode cX5_fails 0 = .ok (.aload_n 0, 1) := by decide +kernel
theorem dX5_fails_1 : decode cX5_fails 1 = .ok (.iload_n 1, 1) := by decide +kernel
theorem dX5_fails_2 : decode cX5_fails 2 = .ok (.putfield 38, 3) := by decide +kernel
theorem dX5_fails_5 : decode cX5_fails 5 = .ok (.iconst 0, 1) := by decide +kernel
theorem dX5_fails_6 : decode cX5_fails 6 = .ok (.ireturn, 1) := by decide +kernel
theorem dX5_in_0 : decode cX5_in 0 = .ok (.iload_n 0, 1) := by decide +kernel
theorem dX5_in_1 : decode cX5_in 1 = .ok (.iload_n 1, 1) := by decide +kernel
theorem dX5_in_2 : decode cX5_in 2 = .ok (.if_icmp .lt 12, 3) := by decide +kernel
theorem dX5_in_5 : decode cX5_in 5 = .ok (.iload_n 0, 1) := by decide +kernel
theorem dX5_in_6 : decode cX5_in 6 = .ok (.iload_n 2, 1) := by decide +kernel
theorem dX5_in_7 : decode cX5_in 7 = .ok (.if_icmp .gt 7, 3) := by decide +kernel
theorem dX5_in_10 : decode cX5_in 10 = .ok (.iconst 1, 1) := by decide +kernel
theorem dX5_in_11 : decode cX5_in 11 = .ok (.goto 4, 3) := by decide +kernel
theorem dX5_in_14 : decode cX5_in 14 = .ok (.iconst 0, 1) := by decide +kernel
theorem dX5_in_15 : decode cX5_in 15 = .ok (.ireturn, 1) := by decide +kernel
set_option maxRecDepth 20000 in
theorem ggX5_isBlock_X5_in : GoodIn wsX5_isBlock wsX5_in := goodIn_r _ [5] (by decide +kernel) (by decide +kernel)
set_option maxRecDepth 20000 in
theorem gX5_isBlock_X5_in : GoodIn wsX5_isBlock (va_wsS RX5 42 yX5_in wsX5_in) := goodIn_app (goodIn_of _ (by decide +kernel)) ggX5_isBlock_X5_in
theorem dX5_isBlock_0 : decode cX5_isBlock 0 = .ok (.iload_n 1, 1) := by decide +kernel
theorem dX5_isBlock_1 : decode cX5_isBlock 1 = .ok (.iconst 0, 1) := by decide +kernel
theorem dX5_isBlock_2 : decode cX5_isBlock 2 = .ok (.aload_n 0, 1) := by decide +kernel
theorem dX5_isBlock_3 : decode cX5_isBlock 3 = .ok (.getfield 7, 3) := by decide +kernel
theorem dX5_isBlock_6 : decode cX5_isBlock 6 = .ok (.bipush 8, 2) := by decide +kernel
theorem dX5_isBlock_8 : decode cX5_isBlock 8 = .ok (.iaload, 1) := by decide +kernel
theorem dX5_isBlock_9 : decode cX5_isBlock 9 = .ok (.iconst 1, 1) := by decide +kernel
theorem dX5_isBlock_10 : decode cX5_isBlock 10 = .ok (.isub, 1) := by decide +kernel
theorem dX5_isBlock_11 : decode cX5_isBlock 11 = .ok (.invokestatic 42, 3) := by decide +kernel
theorem dX5_isBlock_14 : decode cX5_isBlock 14 = .ok (.ireturn, 1) := by decide +kernel
set_option maxRecDepth 20000 in
theorem ggX5_isStack_X5_in : GoodIn wsX5_isStack wsX5_in := goodIn_r _ [4] (by decide +kernel) (by decide +kernel)
set_option maxRecDepth 20000 in
theorem gX5_isStack_X5_in : GoodIn wsX5_isStack (va_wsS RX5 42 yX5_in wsX5_in) := goodIn_app (goodIn_of _ (by decide +kernel)) ggX5_isStack_X5_in
theorem dX5_isStack_0 : decode cX5_isStack 0 = .ok (.iload_n 0, 1) := by decide +kernel
theorem dX5_isStack_1 : decode cX5_isStack 1 = .ok (.iconst 0, 1) := by decide +kernel
theorem dX5_isStack_2 : decode cX5_isStack 2 = .ok (.iconst 2, 1) := by decide +kernel
theorem dX5_isStack_3 : decode cX5_isStack 3 = .ok (.invokestatic 42, 3) := by decide +kernel
theorem dX5_isStack_6 : decode cX5_isStack 6 = .ok (.ireturn, 1) := by decide +kernel
set_option maxRecDepth 20000 in
theorem ggX5_isLength_X5_in : GoodIn wsX5_isLength wsX5_in := goodIn_r _ [5] (by decide +kernel) (by decide +kernel)
set_option maxRecDepth 20000 in
theorem gX5_isLength_X5_in : GoodIn wsX5_isLength (va_wsS RX5 42 yX5_in wsX5_in) := goodIn_app (goodIn_of _ (by decide +kernel)) ggX5_isLength_X5_in
theorem dX5_isLength_0 : decode cX5_isLength 0 = .ok (.iload_n 0, 1) := by decide +kernel
theorem dX5_isLength_1 : decode cX5_isLength 1 = .ok (.sipush 500, 3) := by decide +kernel
theorem dX5_isLength_4 : decode cX5_isLength 4 = .ok (.ldc 46, 2) := by decide +kernel
theorem dX5_isLength_6 : decode cX5_isLength 6 = .ok (.invokestatic 42, 3) := by decide +kernel
theorem dX5_isLength_9 : decode cX5_isLength 9 = .ok (.ireturn, 1) := by decide +kernel
theorem dX5_of_0 : decode cX5_of 0 = .ok (.aload_n 0, 1) := by decide +kernel
theorem dX5_of_1 : decode cX5_of 1 = .ok (.getfield 7, 3) := by decide +kernel
theorem dX5_of_4 : decode cX5_of 4 = .ok (.bipush 9, 2) := by decide +kernel
theorem dX5_of_6 : decode cX5_of 6 = .ok (.bipush 7, 2) := by decide +kernel
theorem dX5_of_8 : decode cX5_of 8 = .ok (.iload_n 1, 1) := by decide +kernel
theorem dX5_of_9 : decode cX5_of 9 = .ok (.imul, 1) := by decide +kernel
theorem dX5_of_10 : decode cX5_of 10 = .ok (.iadd, 1) := by decide +kernel
theorem dX5_of_11 : decode cX5_of 11 = .ok (.iload_n 2, 1) := by decide +kernel
theorem dX5_of_12 : decode cX5_of 12 = .ok (.iadd, 1) := by decide +kernel
theorem dX5_of_13 : decode cX5_of 13 = .ok (.iaload, 1) := by decide +kernel
theorem dX5_of_14 : decode cX5_of 14 = .ok (.ireturn, 1) := by decide +kernel
theorem dX5_put_0 : decode cX5_put 0 = .ok (.aload_n 0, 1) := by decide +kernel
theorem dX5_put_1 : decode cX5_put 1 = .ok (.getfield 7, 3) := by decide +kernel
theorem dX5_put_4 : decode cX5_put 4 = .ok (.bipush 9, 2) := by decide +kernel
theorem dX5_put_6 : decode cX5_put 6 = .ok (.bipush 7, 2) := by decide +kernel
theorem dX5_put_8 : decode cX5_put 8 = .ok (.iload_n 1, 1) := by decide +kernel
theorem dX5_put_9 : decode cX5_put 9 = .ok (.imul, 1) := by decide +kernel
theorem dX5_put_10 : decode cX5_put 10 = .ok (.iadd, 1) := by decide +kernel
theorem dX5_put_11 : decode cX5_put 11 = .ok (.iload_n 2, 1) := by decide +kernel
theorem dX5_put_12 : decode cX5_put 12 = .ok (.iadd, 1) := by decide +kernel
theorem dX5_put_13 : decode cX5_put 13 = .ok (.iload_n 3, 1) := by decide +kernel
theorem dX5_put_14 : decode cX5_put 14 = .ok (.iastore, 1) := by decide +kernel
theorem dX5_put_15 : decode cX5_put 15 = .ok (.return_, 1) := by decide +kernel
theorem dX5_size_0 : decode cX5_size 0 = .ok (.iload_n 0, 1) := by decide +kernel
theorem dX5_size_1 : decode cX5_size 1 = .ok (.ifCond .ge 8, 3) := by decide +kernel
theorem dX5_size_4 : decode cX5_size 4 = .ok (.iload_n 0, 1) := by decide +kernel
theorem dX5_size_5 : decode cX5_size 5 = .ok (.ineg, 1) := by decide +kernel
theorem dX5_size_6 : decode cX5_size 6 = .ok (.goto 4, 3) := by decide +kernel
theorem dX5_size_9 : decode cX5_size 9 = .ok (.iload_n 0, 1) := by decide +kernel
theorem dX5_size_10 : decode cX5_size 10 = .ok (.ireturn, 1) := by decide +kernel
theorem dX5_save_0 : decode cX5_save 0 = .ok (.aload_n 0, 1) := by decide +kernel
theorem dX5_save_1 : decode cX5_save 1 = .ok (.getfield 47, 3) := by decide +kernel
theorem dX5_save_4 : decode cX5_save 4 = .ok (.bipush 6, 2) := by decide +kernel
theorem dX5_save_6 : decode cX5_save 6 = .ok (.if_icmp .ne 44, 3) := by decide +kernel
theorem dX5_save_9 : decode cX5_save 9 = .ok (.iconst 0, 1) := by decide +kernel
theorem dX5_save_10 : decode cX5_save 10 = .ok (.istore_n 1, 1) := by decide +kernel
theorem dX5_save_11 : decode cX5_save 11 = .ok (.iload_n 1, 1) := by decide +kernel
theorem dX5_save_12 : decode cX5_save 12 = .ok (.sipush 745, 3) := by decide +kernel
theorem dX5_save_15 : decode cX5_save 15 = .ok (.if_icmp .ge 25, 3) := by decide +kernel
theorem dX5_save_18 : decode cX5_save 18 = .ok (.aload_n 0, 1) := by decide +kernel
theorem dX5_save_19 : decode cX5_save 19 = .ok (.getfield 13, 3) := by decide +kernel
theorem dX5_save_22 : decode cX5_save 22 = .ok (.iload_n 1, 1) := by decide +kernel
theorem dX5_save_23 : decode cX5_save 23 = .ok (.aload_n 0, 1) := by decide +kernel
theorem dX5_save_24 : decode cX5_save 24 = .ok (.getfield 13, 3) := by decide +kernel
theorem dX5_save_27 : decode cX5_save 27 = .ok (.iload_n 1, 1) := by decide +kernel
theorem dX5_save_28 : decode cX5_save 28 = .ok (.sipush 149, 3) := by decide +kernel
theorem dX5_save_31 : decode cX5_save 31 = .ok (.iadd, 1) := by decide +kernel
theorem dX5_save_32 : decode cX5_save 32 = .ok (.iaload, 1) := by decide +kernel
theorem dX5_save_33 : decode cX5_save 33 = .ok (.iastore, 1) := by decide +kernel
theorem dX5_save_34 : decode cX5_save 34 = .ok (.iinc 1 1, 3) := by decide +kernel
theorem dX5_save_37 : decode cX5_save 37 = .ok (.goto (-26), 3) := by decide +kernel
theorem dX5_save_40 : decode cX5_save 40 = .ok (.aload_n 0, 1) := by decide +kernel
theorem dX5_save_41 : decode cX5_save 41 = .ok (.dup, 1) := by decide +kernel
theorem dX5_save_42 : decode cX5_save 42 = .ok (.getfield 47, 3) := by decide +kernel
theorem dX5_save_45 : decode cX5_save 45 = .ok (.iconst 1, 1) := by decide +kernel
theorem dX5_save_46 : decode cX5_save 46 = .ok (.isub, 1) := by decide +kernel
theorem dX5_save_47 : decode cX5_save 47 = .ok (.putfield 47, 3) := by decide +kernel
theorem dX5_save_50 : decode cX5_save 50 = .ok (.iconst 0, 1) := by decide +kernel
theorem dX5_save_51 : decode cX5_save 51 = .ok (.istore_n 1, 1) := by decide +kernel
theorem dX5_save_52 : decode cX5_save 52 = .ok (.iload_n 1, 1) := by decide +kernel
theorem dX5_save_53 : decode cX5_save 53 = .ok (.sipush 149, 3) := by decide +kernel
theorem dX5_save_56 : decode cX5_save 56 = .ok (.if_icmp .ge 30, 3) := by decide +kernel
theorem dX5_save_59 : decode cX5_save 59 = .ok (.aload_n 0, 1) := by decide +kernel
theorem dX5_save_60 : decode cX5_save 60 = .ok (.getfield 13, 3) := by decide +kernel
theorem dX5_save_63 : decode cX5_save 63 = .ok (.sipush 149, 3) := by decide +kernel
theorem dX5_save_66 : decode cX5_save 66 = .ok (.aload_n 0, 1) := by decide +kernel
theorem dX5_save_67 : decode cX5_save 67 = .ok (.getfield 47, 3) := by decide +kernel
theorem dX5_save_70 : decode cX5_save 70 = .ok (.imul, 1) := by decide +kernel
theorem dX5_save_71 : decode cX5_save 71 = .ok (.iload_n 1, 1) := by decide +kernel
theorem dX5_save_72 : decode cX5_save 72 = .ok (.iadd, 1) := by decide +kernel
theorem dX5_save_73 : decode cX5_save 73 = .ok (.aload_n 0, 1) := by decide +kernel
theorem dX5_save_74 : decode cX5_save 74 = .ok (.getfield 7, 3) := by decide +kernel
theorem dX5_save_77 : decode cX5_save 77 = .ok (.iload_n 1, 1) := by decide +kernel
theorem dX5_save_78 : decode cX5_save 78 = .ok (.iaload, 1) := by decide +kernel
theorem dX5_save_79 : decode cX5_save 79 = .ok (.iastore, 1) := by decide +kernel
theorem dX5_save_80 : decode cX5_save 80 = .ok (.iinc 1 1, 3) := by decide +kernel
theorem dX5_save_83 : decode cX5_save 83 = .ok (.goto (-31), 3) := by decide +kernel
theorem dX5_save_86 : decode cX5_save 86 = .ok (.aload_n 0, 1) := by decide +kernel
theorem dX5_save_87 : decode cX5_save 87 = .ok (.dup, 1) := by decide +kernel
theorem dX5_save_88 : decode cX5_save 88 = .ok (.getfield 47, 3) := by decide +kernel
theorem dX5_save_91 : decode cX5_save 91 = .ok (.iconst 1, 1) := by decide +kernel
theorem dX5_save_92 : decode cX5_save 92 = .ok (.iadd, 1) := by decide +kernel
theorem dX5_save_93 : decode cX5_save 93 = .ok (.putfield 47, 3) := by decide +kernel
theorem dX5_save_96 : decode cX5_save 96 = .ok (.return_, 1) := by decide +kernel
set_option maxRecDepth 20000 in
theorem ggX5_undo_X5_fails : GoodIn wsX5_undo wsX5_fails := goodIn_r _ [9, 1, 10, 11, 12, 13, 14, 15, 16, 17, 18, 19, 20, 21, 22, 23, 24, 25, 26, 27] (by decide +kernel) (by decide +kernel)
set_option maxRecDepth 20000 in
theorem gX5_undo_X5_fails : GoodIn wsX5_undo (wsV RX5 50 RX5 yX5_fails wsX5_fails) := goodIn_app (goodIn_of _ (by decide +kernel)) ggX5_undo_X5_fails
theorem dX5_undo_0 : decode cX5_undo 0 = .ok (.aload_n 0, 1) := by decide +kernel
theorem dX5_undo_1 : decode cX5_undo 1 = .ok (.iconst 0, 1) := by decide +kernel
theorem dX5_undo_2 : decode cX5_undo 2 = .ok (.putfield 38, 3) := by decide +kernel
theorem dX5_undo_5 : decode cX5_undo 5 = .ok (.aload_n 0, 1) := by decide +kernel
theorem dX5_undo_6 : decode cX5_undo 6 = .ok (.getfield 47, 3) := by decide +kernel
theorem dX5_undo_9 : decode cX5_undo 9 = .ok (.ifCond .ne 9, 3) := by decide +kernel
theorem dX5_undo_12 : decode cX5_undo 12 = .ok (.aload_n 0, 1) := by decide +kernel
theorem dX5_undo_13 : decode cX5_undo 13 = .ok (.iconst 1, 1) := by decide +kernel
theorem dX5_undo_14 : decode cX5_undo 14 = .ok (.invokevirtual 50, 3) := by decide +kernel
theorem dX5_undo_17 : decode cX5_undo 17 = .ok (.ireturn, 1) := by decide +kernel
theorem dX5_undo_18 : decode cX5_undo 18 = .ok (.aload_n 0, 1) := by decide +kernel
theorem dX5_undo_19 : decode cX5_undo 19 = .ok (.dup, 1) := by decide +kernel
theorem dX5_undo_20 : decode cX5_undo 20 = .ok (.getfield 47, 3) := by decide +kernel
theorem dX5_undo_23 : decode cX5_undo 23 = .ok (.iconst 1, 1) := by decide +kernel
theorem dX5_undo_24 : decode cX5_undo 24 = .ok (.isub, 1) := by decide +kernel
theorem dX5_undo_25 : decode cX5_undo 25 = .ok (.putfield 47, 3) := by decide +kernel
theorem dX5_undo_28 : decode cX5_undo 28 = .ok (.iconst 0, 1) := by decide +kernel
theorem dX5_undo_29 : decode cX5_undo 29 = .ok (.istore_n 1, 1) := by decide +kernel
theorem dX5_undo_30 : decode cX5_undo 30 = .ok (.iload_n 1, 1) := by decide +kernel
theorem dX5_undo_31 : decode cX5_undo 31 = .ok (.sipush 149, 3) := by decide +kernel
theorem dX5_undo_34 : decode cX5_undo 34 = .ok (.if_icmp .ge 30, 3) := by decide +kernel
theorem dX5_undo_37 : decode cX5_undo 37 = .ok (.aload_n 0, 1) := by decide +kernel
theorem dX5_undo_38 : decode cX5_undo 38 = .ok (.getfield 7, 3) := by decide +kernel
theorem dX5_undo_41 : decode cX5_undo 41 = .ok (.iload_n 1, 1) := by decide +kernel
theorem dX5_undo_42 : decode cX5_undo 42 = .ok (.aload_n 0, 1) := by decide +kernel
theorem dX5_undo_43 : decode cX5_undo 43 = .ok (.getfield 13, 3) := by decide +kernel
theorem dX5_undo_46 : decode cX5_undo 46 = .ok (.sipush 149, 3) := by decide +kernel
theorem dX5_undo_49 : decode cX5_undo 49 = .ok (.aload_n 0, 1) := by decide +kernel
theorem dX5_undo_50 : decode cX5_undo 50 = .ok (.getfield 47, 3) := by decide +kernel
theorem dX5_undo_53 : decode cX5_undo 53 = .ok (.imul, 1) := by decide +kernel
theorem dX5_undo_54 : decode cX5_undo 54 = .ok (.iload_n 1, 1) := by decide +kernel
theorem dX5_undo_55 : decode cX5_undo 55 = .ok (.iadd, 1) := by decide +kernel
theorem dX5_undo_56 : decode cX5_undo 56 = .ok (.iaload, 1) := by decide +kernel
theorem dX5_undo_57 : decode cX5_undo 57 = .ok (.iastore, 1) := by decide +kernel
theorem dX5_undo_58 : decode cX5_undo 58 = .ok (.iinc 1 1, 3) := by decide +kernel
theorem dX5_undo_61 : decode cX5_undo 61 = .ok (.goto (-31), 3) := by decide +kernel
theorem dX5_undo_64 : decode cX5_undo 64 = .ok (.aload_n 0, 1) := by decide +kernel
theorem dX5_undo_65 : decode cX5_undo 65 = .ok (.getfield 47, 3) := by decide +kernel
theorem dX5_undo_68 : decode cX5_undo 68 = .ok (.ireturn, 1) := by decide +kernel
set_option maxRecDepth 20000 in
theorem ggX5_keep_X5_in : GoodIn wsX5_keep wsX5_in := goodIn_r _ [8] (by decide +kernel) (by decide +kernel)
set_option maxRecDepth 20000 in
theorem gX5_keep_X5_in : GoodIn wsX5_keep (va_wsS RX5 42 yX5_in wsX5_in) := goodIn_app (goodIn_of _ (by decide +kernel)) ggX5_keep_X5_in
set_option maxRecDepth 20000 in
theorem ggX5_keep_X5_fails : GoodIn wsX5_keep wsX5_fails := goodIn_r _ [12, 1, 13, 14, 15, 16, 17, 18, 19, 20, 21, 22, 23, 24, 25, 26, 27, 28, 29, 30] (by decide +kernel) (by decide +kernel)
set_option maxRecDepth 20000 in
theorem gX5_keep_X5_fails : GoodIn wsX5_keep (wsV RX5 50 RX5 yX5_fails wsX5_fails) := goodIn_app (goodIn_of _ (by decide +kernel)) ggX5_keep_X5_fails
theorem dX5_keep_0 : decode cX5_keep 0 = .ok (.aload_n 0, 1) := by decide +kernel
theorem dX5_keep_1 : decode cX5_keep 1 = .ok (.iconst 0, 1) := by decide +kernel
theorem dX5_keep_2 : decode cX5_keep 2 = .ok (.putfield 38, 3) := by decide +kernel
theorem dX5_keep_5 : decode cX5_keep 5 = .ok (.iload_n 1, 1) := by decide +kernel
theorem dX5_keep_6 : decode cX5_keep 6 = .ok (.iconst 0, 1) := by decide +kernel
theorem dX5_keep_7 : decode cX5_keep 7 = .ok (.iconst 1, 1) := by decide +kernel
theorem dX5_keep_8 : decode cX5_keep 8 = .ok (.invokestatic 42, 3) := by decide +kernel
theorem dX5_keep_11 : decode cX5_keep 11 = .ok (.ifCond .ne 9, 3) := by decide +kernel
theorem dX5_keep_14 : decode cX5_keep 14 = .ok (.aload_n 0, 1) := by decide +kernel
theorem dX5_keep_15 : decode cX5_keep 15 = .ok (.iconst 1, 1) := by decide +kernel
theorem dX5_keep_16 : decode cX5_keep 16 = .ok (.invokevirtual 50, 3) := by decide +kernel
theorem dX5_keep_19 : decode cX5_keep 19 = .ok (.ireturn, 1) := by decide +kernel
theorem dX5_keep_20 : decode cX5_keep 20 = .ok (.iconst 0, 1) := by decide +kernel
theorem dX5_keep_21 : decode cX5_keep 21 = .ok (.istore_n 2, 1) := by decide +kernel
theorem dX5_keep_22 : decode cX5_keep 22 = .ok (.iload_n 2, 1) := by decide +kernel
theorem dX5_keep_23 : decode cX5_keep 23 = .ok (.sipush 149, 3) := by decide +kernel
theorem dX5_keep_26 : decode cX5_keep 26 = .ok (.if_icmp .ge 27, 3) := by decide +kernel
theorem dX5_keep_29 : decode cX5_keep 29 = .ok (.aload_n 0, 1) := by decide +kernel
theorem dX5_keep_30 : decode cX5_keep 30 = .ok (.getfield 16, 3) := by decide +kernel
theorem dX5_keep_33 : decode cX5_keep 33 = .ok (.sipush 149, 3) := by decide +kernel
theorem dX5_keep_36 : decode cX5_keep 36 = .ok (.iload_n 1, 1) := by decide +kernel
theorem dX5_keep_37 : decode cX5_keep 37 = .ok (.imul, 1) := by decide +kernel
theorem dX5_keep_38 : decode cX5_keep 38 = .ok (.iload_n 2, 1) := by decide +kernel
theorem dX5_keep_39 : decode cX5_keep 39 = .ok (.iadd, 1) := by decide +kernel
theorem dX5_keep_40 : decode cX5_keep 40 = .ok (.aload_n 0, 1) := by decide +kernel
theorem dX5_keep_41 : decode cX5_keep 41 = .ok (.getfield 7, 3) := by decide +kernel
theorem dX5_keep_44 : decode cX5_keep 44 = .ok (.iload_n 2, 1) := by decide +kernel
theorem dX5_keep_45 : decode cX5_keep 45 = .ok (.iaload, 1) := by decide +kernel
theorem dX5_keep_46 : decode cX5_keep 46 = .ok (.iastore, 1) := by decide +kernel
theorem dX5_keep_47 : decode cX5_keep 47 = .ok (.iinc 2 1, 3) := by decide +kernel
theorem dX5_keep_50 : decode cX5_keep 50 = .ok (.goto (-28), 3) := by decide +kernel
theorem dX5_keep_53 : decode cX5_keep 53 = .ok (.aload_n 0, 1) := by decide +kernel
theorem dX5_keep_54 : decode cX5_keep 54 = .ok (.getfield 19, 3) := by decide +kernel
theorem dX5_keep_57 : decode cX5_keep 57 = .ok (.iload_n 1, 1) := by decide +kernel
theorem dX5_keep_58 : decode cX5_keep 58 = .ok (.iconst 1, 1) := by decide +kernel
theorem dX5_keep_59 : decode cX5_keep 59 = .ok (.bastore, 1) := by decide +kernel
theorem dX5_keep_60 : decode cX5_keep 60 = .ok (.aload_n 0, 1) := by decide +kernel
theorem dX5_keep_61 : decode cX5_keep 61 = .ok (.getfield 7, 3) := by decide +kernel
theorem dX5_keep_64 : decode cX5_keep 64 = .ok (.bipush 8, 2) := by decide +kernel
theorem dX5_keep_66 : decode cX5_keep 66 = .ok (.iaload, 1) := by decide +kernel
theorem dX5_keep_67 : decode cX5_keep 67 = .ok (.ireturn, 1) := by decide +kernel
set_option maxRecDepth 20000 in
theorem ggX5_goBack_X5_in : GoodIn wsX5_goBack wsX5_in := goodIn_r _ [8] (by decide +kernel) (by decide +kernel)
set_option maxRecDepth 20000 in
theorem gX5_goBack_X5_in : GoodIn wsX5_goBack (va_wsS RX5 42 yX5_in wsX5_in) := goodIn_app (goodIn_of _ (by decide +kernel)) ggX5_goBack_X5_in
set_option maxRecDepth 20000 in
theorem ggX5_goBack_X5_fails : GoodIn wsX5_goBack wsX5_fails := goodIn_r _ [12, 1, 19, 20, 21, 22, 23, 24, 25, 26, 27, 28, 29, 30, 31, 32, 33, 34, 35, 36] (by decide +kernel) (by decide +kernel)
set_option maxRecDepth 20000 in
theorem gX5_goBack_X5_fails : GoodIn wsX5_goBack (wsV RX5 50 RX5 yX5_fails wsX5_fails) := goodIn_app (goodIn_of _ (by decide +kernel)) ggX5_goBack_X5_fails
set_option maxRecDepth 20000 in
theorem ggX5_goBack_X5_save : GoodIn wsX5_goBack wsX5_save := goodIn_r _ [16, 17, 18, 3, 19, 20, 21, 22, 23, 24, 25, 26, 27, 28, 29, 30, 31, 32, 33, 34, 35, 36] (by decide +kernel) (by decide +kernel)
set_option maxRecDepth 20000 in
theorem gX5_goBack_X5_save : GoodIn wsX5_goBack (wsV RX5 54 RX5 yX5_save wsX5_save) := goodIn_app (goodIn_of _ (by decide +kernel)) ggX5_goBack_X5_save
theorem dX5_goBack_0 : decode cX5_goBack 0 = .ok (.aload_n 0, 1) := by decide +kernel
theorem dX5_goBack_1 : decode cX5_goBack 1 = .ok (.iconst 0, 1) := by decide +kernel
theorem dX5_goBack_2 : decode cX5_goBack 2 = .ok (.putfield 38, 3) := by decide +kernel
theorem dX5_goBack_5 : decode cX5_goBack 5 = .ok (.iload_n 1, 1) := by decide +kernel
theorem dX5_goBack_6 : decode cX5_goBack 6 = .ok (.iconst 0, 1) := by decide +kernel
theorem dX5_goBack_7 : decode cX5_goBack 7 = .ok (.iconst 1, 1) := by decide +kernel
theorem dX5_goBack_8 : decode cX5_goBack 8 = .ok (.invokestatic 42, 3) := by decide +kernel
theorem dX5_goBack_11 : decode cX5_goBack 11 = .ok (.ifCond .ne 9, 3) := by decide +kernel
theorem dX5_goBack_14 : decode cX5_goBack 14 = .ok (.aload_n 0, 1) := by decide +kernel
theorem dX5_goBack_15 : decode cX5_goBack 15 = .ok (.iconst 1, 1) := by decide +kernel
theorem dX5_goBack_16 : decode cX5_goBack 16 = .ok (.invokevirtual 50, 3) := by decide +kernel
theorem dX5_goBack_19 : decode cX5_goBack 19 = .ok (.ireturn, 1) := by decide +kernel
theorem dX5_goBack_20 : decode cX5_goBack 20 = .ok (.aload_n 0, 1) := by decide +kernel
theorem dX5_goBack_21 : decode cX5_goBack 21 = .ok (.getfield 19, 3) := by decide +kernel
theorem dX5_goBack_24 : decode cX5_goBack 24 = .ok (.iload_n 1, 1) := by decide +kernel
theorem dX5_goBack_25 : decode cX5_goBack 25 = .ok (.baload, 1) := by decide +kernel
theorem dX5_goBack_26 : decode cX5_goBack 26 = .ok (.ifCond .ne 9, 3) := by decide +kernel
theorem dX5_goBack_29 : decode cX5_goBack 29 = .ok (.aload_n 0, 1) := by decide +kernel
theorem dX5_goBack_30 : decode cX5_goBack 30 = .ok (.iconst 2, 1) := by decide +kernel
theorem dX5_goBack_31 : decode cX5_goBack 31 = .ok (.invokevirtual 50, 3) := by decide +kernel
theorem dX5_goBack_34 : decode cX5_goBack 34 = .ok (.ireturn, 1) := by decide +kernel
theorem dX5_goBack_35 : decode cX5_goBack 35 = .ok (.aload_n 0, 1) := by decide +kernel
theorem dX5_goBack_36 : decode cX5_goBack 36 = .ok (.invokevirtual 54, 3) := by decide +kernel
theorem dX5_goBack_39 : decode cX5_goBack 39 = .ok (.iconst 0, 1) := by decide +kernel
theorem dX5_goBack_40 : decode cX5_goBack 40 = .ok (.istore_n 2, 1) := by decide +kernel
theorem dX5_goBack_41 : decode cX5_goBack 41 = .ok (.iload_n 2, 1) := by decide +kernel
theorem dX5_goBack_42 : decode cX5_goBack 42 = .ok (.sipush 149, 3) := by decide +kernel
theorem dX5_goBack_45 : decode cX5_goBack 45 = .ok (.if_icmp .ge 27, 3) := by decide +kernel
theorem dX5_goBack_48 : decode cX5_goBack 48 = .ok (.aload_n 0, 1) := by decide +kernel
theorem dX5_goBack_49 : decode cX5_goBack 49 = .ok (.getfield 7, 3) := by decide +kernel
theorem dX5_goBack_52 : decode cX5_goBack 52 = .ok (.iload_n 2, 1) := by decide +kernel
theorem dX5_goBack_53 : decode cX5_goBack 53 = .ok (.aload_n 0, 1) := by decide +kernel
theorem dX5_goBack_54 : decode cX5_goBack 54 = .ok (.getfield 16, 3) := by decide +kernel
theorem dX5_goBack_57 : decode cX5_goBack 57 = .ok (.sipush 149, 3) := by decide +kernel
theorem dX5_goBack_60 : decode cX5_goBack 60 = .ok (.iload_n 1, 1) := by decide +kernel
theorem dX5_goBack_61 : decode cX5_goBack 61 = .ok (.imul, 1) := by decide +kernel
theorem dX5_goBack_62 : decode cX5_goBack 62 = .ok (.iload_n 2, 1) := by decide +kernel
theorem dX5_goBack_63 : decode cX5_goBack 63 = .ok (.iadd, 1) := by decide +kernel
theorem dX5_goBack_64 : decode cX5_goBack 64 = .ok (.iaload, 1) := by decide +kernel
theorem dX5_goBack_65 : decode cX5_goBack 65 = .ok (.iastore, 1) := by decide +kernel
theorem dX5_goBack_66 : decode cX5_goBack 66 = .ok (.iinc 2 1, 3) := by decide +kernel
theorem dX5_goBack_69 : decode cX5_goBack 69 = .ok (.goto (-28), 3) := by decide +kernel
theorem dX5_goBack_72 : decode cX5_goBack 72 = .ok (.aload_n 0, 1) := by decide +kernel
theorem dX5_goBack_73 : decode cX5_goBack 73 = .ok (.getfield 7, 3) := by decide +kernel
theorem dX5_goBack_76 : decode cX5_goBack 76 = .ok (.bipush 8, 2) := by decide +kernel
theorem dX5_goBack_78 : decode cX5_goBack 78 = .ok (.iaload, 1) := by decide +kernel
theorem dX5_goBack_79 : decode cX5_goBack 79 = .ok (.ireturn, 1) := by decide +kernel
set_option maxRecDepth 20000 in
theorem ggX5_isFree_X5_of : GoodIn wsX5_isFree wsX5_of := goodIn_r _ [5, 6, 7, 8, 9, 10, 11, 12, 13, 14, 15, 16, 17, 18, 19, 20, 21, 22, 23, 24] (by decide +kernel) (by decide +kernel)
set_option maxRecDepth 20000 in
theorem gX5_isFree_X5_of : GoodIn wsX5_isFree (wsV RX5 57 RX5 yX5_of wsX5_of) := goodIn_app (goodIn_of _ (by decide +kernel)) ggX5_isFree_X5_of
theorem dX5_isFree_0 : decode cX5_isFree 0 = .ok (.aload_n 0, 1) := by decide +kernel
theorem dX5_isFree_1 : decode cX5_isFree 1 = .ok (.iload_n 1, 1) := by decide +kernel
theorem dX5_isFree_2 : decode cX5_isFree 2 = .ok (.iconst 4, 1) := by decide +kernel
theorem dX5_isFree_3 : decode cX5_isFree 3 = .ok (.invokevirtual 57, 3) := by decide +kernel
theorem dX5_isFree_6 : decode cX5_isFree 6 = .ok (.iconst (-1), 1) := by decide +kernel
theorem dX5_isFree_7 : decode cX5_isFree 7 = .ok (.if_icmp .ne 7, 3) := by decide +kernel
theorem dX5_isFree_10 : decode cX5_isFree 10 = .ok (.iconst 1, 1) := by decide +kernel
theorem dX5_isFree_11 : decode cX5_isFree 11 = .ok (.goto 4, 3) := by decide +kernel
theorem dX5_isFree_14 : decode cX5_isFree 14 = .ok (.iconst 0, 1) := by decide +kernel
theorem dX5_isFree_15 : decode cX5_isFree 15 = .ok (.ireturn, 1) := by decide +kernel
set_option maxRecDepth 20000 in
theorem ggX5_error_X5_of : GoodIn wsX5_error wsX5_of := goodIn_r _ [5, 6, 7, 8, 9, 10, 11, 12, 13, 14, 15, 16, 17, 18, 19, 20, 21, 22, 23, 24] (by decide +kernel) (by decide +kernel)
set_option maxRecDepth 20000 in
theorem gX5_error_X5_of : GoodIn wsX5_error (wsV RX5 57 RX5 yX5_of wsX5_of) := goodIn_app (goodIn_of _ (by decide +kernel)) ggX5_error_X5_of
theorem dX5_error_0 : decode cX5_error 0 = .ok (.aload_n 0, 1) := by decide +kernel
theorem dX5_error_1 : decode cX5_error 1 = .ok (.iload_n 1, 1) := by decide +kernel
theorem dX5_error_2 : decode cX5_error 2 = .ok (.iconst 1, 1) := by decide +kernel
theorem dX5_error_3 : decode cX5_error 3 = .ok (.invokevirtual 57, 3) := by decide +kernel
theorem dX5_error_6 : decode cX5_error 6 = .ok (.aload_n 0, 1) := by decide +kernel
theorem dX5_error_7 : decode cX5_error 7 = .ok (.iload_n 1, 1) := by decide +kernel
theorem dX5_error_8 : decode cX5_error 8 = .ok (.iconst 2, 1) := by decide +kernel
theorem dX5_error_9 : decode cX5_error 9 = .ok (.invokevirtual 57, 3) := by decide +kernel
theorem dX5_error_12 : decode cX5_error 12 = .ok (.isub, 1) := by decide +kernel
theorem dX5_error_13 : decode cX5_error 13 = .ok (.ireturn, 1) := by decide +kernel
set_option maxRecDepth 20000 in
theorem ggX5_grade_X5_error : GoodIn wsX5_grade wsX5_error := goodIn_r _ [5, 6, 7, 8, 4, 9, 10, 14, 15, 16, 17, 18, 19, 20, 21, 22, 23, 24, 25, 26, 27, 28, 29, 30, 31] (by decide +kernel) (by decide +kernel)
set_option maxRecDepth 20000 in
theorem gX5_grade_X5_error : GoodIn wsX5_grade (wsV RX5 61 RX5 yX5_error wsX5_error) := goodIn_app (goodIn_of _ (by decide +kernel)) ggX5_grade_X5_error
set_option maxRecDepth 20000 in
theorem ggX5_grade_X5_size : GoodIn wsX5_grade wsX5_size := goodIn_r _ [13] (by decide +kernel) (by decide +kernel)
set_option maxRecDepth 20000 in
theorem gX5_grade_X5_size : GoodIn wsX5_grade (va_wsS RX5 64 yX5_size wsX5_size) := goodIn_app (goodIn_of _ (by decide +kernel)) ggX5_grade_X5_size
theorem dX5_grade_0 : decode cX5_grade 0 = .ok (.aload_n 0, 1) := by decide +kernel
theorem dX5_grade_1 : decode cX5_grade 1 = .ok (.iload_n 1, 1) := by decide +kernel
theorem dX5_grade_2 : decode cX5_grade 2 = .ok (.invokevirtual 61, 3) := by decide +kernel
theorem dX5_grade_5 : decode cX5_grade 5 = .ok (.invokestatic 64, 3) := by decide +kernel
theorem dX5_grade_8 : decode cX5_grade 8 = .ok (.istore_n 2, 1) := by decide +kernel
theorem dX5_grade_9 : decode cX5_grade 9 = .ok (.iload_n 2, 1) := by decide +kernel
theorem dX5_grade_10 : decode cX5_grade 10 = .ok (.bipush 100, 2) := by decide +kernel
theorem dX5_grade_12 : decode cX5_grade 12 = .ok (.if_icmp .gt 7, 3) := by decide +kernel
theorem dX5_grade_15 : decode cX5_grade 15 = .ok (.iconst 0, 1) := by decide +kernel
theorem dX5_grade_16 : decode cX5_grade 16 = .ok (.goto 26, 3) := by decide +kernel
theorem dX5_grade_19 : decode cX5_grade 19 = .ok (.iload_n 2, 1) := by decide +kernel
theorem dX5_grade_20 : decode cX5_grade 20 = .ok (.sipush 250, 3) := by decide +kernel
theorem dX5_grade_23 : decode cX5_grade 23 = .ok (.if_icmp .gt 7, 3) := by decide +kernel
theorem dX5_grade_26 : decode cX5_grade 26 = .ok (.iconst 1, 1) := by decide +kernel
theorem dX5_grade_27 : decode cX5_grade 27 = .ok (.goto 15, 3) := by decide +kernel
theorem dX5_grade_30 : decode cX5_grade 30 = .ok (.iload_n 2, 1) := by decide +kernel
theorem dX5_grade_31 : decode cX5_grade 31 = .ok (.sipush 500, 3) := by decide +kernel
theorem dX5_grade_34 : decode cX5_grade 34 = .ok (.if_icmp .gt 7, 3) := by decide +kernel
theorem dX5_grade_37 : decode cX5_grade 37 = .ok (.iconst 2, 1) := by decide +kernel
theorem dX5_grade_38 : decode cX5_grade 38 = .ok (.goto 4, 3) := by decide +kernel
theorem dX5_grade_41 : decode cX5_grade 41 = .ok (.iconst 3, 1) := by decide +kernel
theorem dX5_grade_42 : decode cX5_grade 42 = .ok (.ireturn, 1) := by decide +kernel
set_option maxRecDepth 20000 in
theorem ggX5_trueLength_X5_of : GoodIn wsX5_trueLength wsX5_of := goodIn_r _ [5, 6, 11, 12, 13, 14, 15, 16, 17, 18, 19, 20, 21, 22, 23, 24, 25, 26, 27, 28] (by decide +kernel) (by decide +kernel)
set_option maxRecDepth 20000 in
theorem gX5_trueLength_X5_of : GoodIn wsX5_trueLength (wsV RX5 57 RX5 yX5_of wsX5_of) := goodIn_app (goodIn_of _ (by decide +kernel)) ggX5_trueLength_X5_of
set_option maxRecDepth 20000 in
theorem ggX5_trueLength_X5_error : GoodIn wsX5_trueLength wsX5_error := goodIn_r _ [10, 1, 2, 3, 4, 5, 6, 11, 12, 13, 14, 15, 16, 17, 18, 19, 20, 21, 22, 23, 24, 25, 26, 27, 28] (by decide +kernel) (by decide +kernel)
set_option maxRecDepth 20000 in
theorem gX5_trueLength_X5_error : GoodIn wsX5_trueLength (wsV RX5 61 RX5 yX5_error wsX5_error) := goodIn_app (goodIn_of _ (by decide +kernel)) ggX5_trueLength_X5_error
theorem dX5_trueLength_0 : decode cX5_trueLength 0 = .ok (.aload_n 0, 1) := by decide +kernel
theorem dX5_trueLength_1 : decode cX5_trueLength 1 = .ok (.iload_n 1, 1) := by decide +kernel
theorem dX5_trueLength_2 : decode cX5_trueLength 2 = .ok (.iconst 0, 1) := by decide +kernel
theorem dX5_trueLength_3 : decode cX5_trueLength 3 = .ok (.invokevirtual 57, 3) := by decide +kernel
theorem dX5_trueLength_6 : decode cX5_trueLength 6 = .ok (.istore_n 3, 1) := by decide +kernel
theorem dX5_trueLength_7 : decode cX5_trueLength 7 = .ok (.sipush 1000, 3) := by decide +kernel
theorem dX5_trueLength_10 : decode cX5_trueLength 10 = .ok (.iload_n 3, 1) := by decide +kernel
theorem dX5_trueLength_11 : decode cX5_trueLength 11 = .ok (.imul, 1) := by decide +kernel
theorem dX5_trueLength_12 : decode cX5_trueLength 12 = .ok (.aload_n 0, 1) := by decide +kernel
theorem dX5_trueLength_13 : decode cX5_trueLength 13 = .ok (.iload_n 1, 1) := by decide +kernel
theorem dX5_trueLength_14 : decode cX5_trueLength 14 = .ok (.invokevirtual 61, 3) := by decide +kernel
theorem dX5_trueLength_17 : decode cX5_trueLength 17 = .ok (.iadd, 1) := by decide +kernel
theorem dX5_trueLength_18 : decode cX5_trueLength 18 = .ok (.iload_n 3, 1) := by decide +kernel
theorem dX5_trueLength_19 : decode cX5_trueLength 19 = .ok (.iload_n 2, 1) := by decide +kernel
theorem dX5_trueLength_20 : decode cX5_trueLength 20 = .ok (.imul, 1) := by decide +kernel
theorem dX5_trueLength_21 : decode cX5_trueLength 21 = .ok (.sipush 1000, 3) := by decide +kernel
theorem dX5_trueLength_24 : decode cX5_trueLength 24 = .ok (.idiv, 1) := by decide +kernel
theorem dX5_trueLength_25 : decode cX5_trueLength 25 = .ok (.bipush 115, 2) := by decide +kernel
theorem dX5_trueLength_27 : decode cX5_trueLength 27 = .ok (.imul, 1) := by decide +kernel
theorem dX5_trueLength_28 : decode cX5_trueLength 28 = .ok (.sipush 1000, 3) := by decide +kernel
theorem dX5_trueLength_31 : decode cX5_trueLength 31 = .ok (.idiv, 1) := by decide +kernel
theorem dX5_trueLength_32 : decode cX5_trueLength 32 = .ok (.iadd, 1) := by decide +kernel
theorem dX5_trueLength_33 : decode cX5_trueLength 33 = .ok (.ireturn, 1) := by decide +kernel
set_option maxRecDepth 20000 in
theorem ggX5_height_X5_of : GoodIn wsX5_height wsX5_of := goodIn_r _ [6, 1, 7, 8, 9, 10, 11, 12, 13, 14, 15, 16, 17, 18, 19, 20, 21, 22, 23, 24] (by decide +kernel) (by decide +kernel)
set_option maxRecDepth 20000 in
theorem gX5_height_X5_of : GoodIn wsX5_height (wsV RX5 57 RX5 yX5_of wsX5_of) := goodIn_app (goodIn_of _ (by decide +kernel)) ggX5_height_X5_of
theorem dX5_height_0 : decode cX5_height 0 = .ok (.iconst 0, 1) := by decide +kernel
theorem dX5_height_1 : decode cX5_height 1 = .ok (.istore_n 2, 1) := by decide +kernel
theorem dX5_height_2 : decode cX5_height 2 = .ok (.iconst 0, 1) := by decide +kernel
theorem dX5_height_3 : decode cX5_height 3 = .ok (.istore_n 3, 1) := by decide +kernel
theorem dX5_height_4 : decode cX5_height 4 = .ok (.iload_n 3, 1) := by decide +kernel
theorem dX5_height_5 : decode cX5_height 5 = .ok (.aload_n 0, 1) := by decide +kernel
theorem dX5_height_6 : decode cX5_height 6 = .ok (.getfield 7, 3) := by decide +kernel
theorem dX5_height_9 : decode cX5_height 9 = .ok (.bipush 8, 2) := by decide +kernel
theorem dX5_height_11 : decode cX5_height 11 = .ok (.iaload, 1) := by decide +kernel
theorem dX5_height_12 : decode cX5_height 12 = .ok (.if_icmp .ge 27, 3) := by decide +kernel
theorem dX5_height_15 : decode cX5_height 15 = .ok (.iload_n 2, 1) := by decide +kernel
theorem dX5_height_16 : decode cX5_height 16 = .ok (.aload_n 0, 1) := by decide +kernel
theorem dX5_height_17 : decode cX5_height 17 = .ok (.iload_n 3, 1) := by decide +kernel
theorem dX5_height_18 : decode cX5_height 18 = .ok (.iconst 4, 1) := by decide +kernel
theorem dX5_height_19 : decode cX5_height 19 = .ok (.invokevirtual 57, 3) := by decide +kernel
theorem dX5_height_22 : decode cX5_height 22 = .ok (.iload_n 1, 1) := by decide +kernel
theorem dX5_height_23 : decode cX5_height 23 = .ok (.if_icmp .ne 7, 3) := by decide +kernel
theorem dX5_height_26 : decode cX5_height 26 = .ok (.iconst 1, 1) := by decide +kernel
theorem dX5_height_27 : decode cX5_height 27 = .ok (.goto 4, 3) := by decide +kernel
theorem dX5_height_30 : decode cX5_height 30 = .ok (.iconst 0, 1) := by decide +kernel
theorem dX5_height_31 : decode cX5_height 31 = .ok (.iadd, 1) := by decide +kernel
theorem dX5_height_32 : decode cX5_height 32 = .ok (.istore_n 2, 1) := by decide +kernel
theorem dX5_height_33 : decode cX5_height 33 = .ok (.iinc 3 1, 3) := by decide +kernel
theorem dX5_height_36 : decode cX5_height 36 = .ok (.goto (-32), 3) := by decide +kernel
theorem dX5_height_39 : decode cX5_height 39 = .ok (.iload_n 2, 1) := by decide +kernel
theorem dX5_height_40 : decode cX5_height 40 = .ok (.ireturn, 1) := by decide +kernel
set_option maxRecDepth 20000 in
theorem ggX5_blockAt_X5_of : GoodIn wsX5_blockAt wsX5_of := goodIn_r _ [6, 1, 7, 8, 9, 10, 11, 12, 13, 14, 15, 16, 17, 18, 19, 20, 21, 22, 23, 24] (by decide +kernel) (by decide +kernel)
set_option maxRecDepth 20000 in
theorem gX5_blockAt_X5_of : GoodIn wsX5_blockAt (wsV RX5 57 RX5 yX5_of wsX5_of) := goodIn_app (goodIn_of _ (by decide +kernel)) ggX5_blockAt_X5_of
theorem dX5_blockAt_0 : decode cX5_blockAt 0 = .ok (.iconst (-1), 1) := by decide +kernel
theorem dX5_blockAt_1 : decode cX5_blockAt 1 = .ok (.istore_n 3, 1) := by decide +kernel
theorem dX5_blockAt_2 : decode cX5_blockAt 2 = .ok (.iconst 0, 1) := by decide +kernel
theorem dX5_blockAt_3 : decode cX5_blockAt 3 = .ok (.istore 4, 2) := by decide +kernel
theorem dX5_blockAt_5 : decode cX5_blockAt 5 = .ok (.iload 4, 2) := by decide +kernel
theorem dX5_blockAt_7 : decode cX5_blockAt 7 = .ok (.aload_n 0, 1) := by decide +kernel
theorem dX5_blockAt_8 : decode cX5_blockAt 8 = .ok (.getfield 7, 3) := by decide +kernel
theorem dX5_blockAt_11 : decode cX5_blockAt 11 = .ok (.bipush 8, 2) := by decide +kernel
theorem dX5_blockAt_13 : decode cX5_blockAt 13 = .ok (.iaload, 1) := by decide +kernel
theorem dX5_blockAt_14 : decode cX5_blockAt 14 = .ok (.if_icmp .ge 38, 3) := by decide +kernel
theorem dX5_blockAt_17 : decode cX5_blockAt 17 = .ok (.aload_n 0, 1) := by decide +kernel
theorem dX5_blockAt_18 : decode cX5_blockAt 18 = .ok (.iload 4, 2) := by decide +kernel
theorem dX5_blockAt_20 : decode cX5_blockAt 20 = .ok (.iconst 4, 1) := by decide +kernel
theorem dX5_blockAt_21 : decode cX5_blockAt 21 = .ok (.invokevirtual 57, 3) := by decide +kernel
theorem dX5_blockAt_24 : decode cX5_blockAt 24 = .ok (.iload_n 1, 1) := by decide +kernel
theorem dX5_blockAt_25 : decode cX5_blockAt 25 = .ok (.if_icmp .ne 19, 3) := by decide +kernel
theorem dX5_blockAt_28 : decode cX5_blockAt 28 = .ok (.aload_n 0, 1) := by decide +kernel
theorem dX5_blockAt_29 : decode cX5_blockAt 29 = .ok (.iload 4, 2) := by decide +kernel
theorem dX5_blockAt_31 : decode cX5_blockAt 31 = .ok (.iconst 5, 1) := by decide +kernel
theorem dX5_blockAt_32 : decode cX5_blockAt 32 = .ok (.invokevirtual 57, 3) := by decide +kernel
theorem dX5_blockAt_35 : decode cX5_blockAt 35 = .ok (.iload_n 2, 1) := by decide +kernel
theorem dX5_blockAt_36 : decode cX5_blockAt 36 = .ok (.if_icmp .ne 8, 3) := by decide +kernel
theorem dX5_blockAt_39 : decode cX5_blockAt 39 = .ok (.iload 4, 2) := by decide +kernel
theorem dX5_blockAt_41 : decode cX5_blockAt 41 = .ok (.goto 4, 3) := by decide +kernel
theorem dX5_blockAt_44 : decode cX5_blockAt 44 = .ok (.iload_n 3, 1) := by decide +kernel
theorem dX5_blockAt_45 : decode cX5_blockAt 45 = .ok (.istore_n 3, 1) := by decide +kernel
theorem dX5_blockAt_46 : decode cX5_blockAt 46 = .ok (.iinc 4 1, 3) := by decide +kernel
theorem dX5_blockAt_49 : decode cX5_blockAt 49 = .ok (.goto (-44), 3) := by decide +kernel
theorem dX5_blockAt_52 : decode cX5_blockAt 52 = .ok (.iload_n 3, 1) := by decide +kernel
theorem dX5_blockAt_53 : decode cX5_blockAt 53 = .ok (.ireturn, 1) := by decide +kernel
theorem dX5_cooled_0 : decode cX5_cooled 0 = .ok (.iload_n 0, 1) := by decide +kernel
theorem dX5_cooled_1 : decode cX5_cooled 1 = .ok (.iload_n 0, 1) := by decide +kernel
theorem dX5_cooled_2 : decode cX5_cooled 2 = .ok (.bipush 9, 2) := by decide +kernel
theorem dX5_cooled_4 : decode cX5_cooled 4 = .ok (.iadd, 1) := by decide +kernel
theorem dX5_cooled_5 : decode cX5_cooled 5 = .ok (.bipush 10, 2) := by decide +kernel
theorem dX5_cooled_7 : decode cX5_cooled 7 = .ok (.idiv, 1) := by decide +kernel
theorem dX5_cooled_8 : decode cX5_cooled 8 = .ok (.isub, 1) := by decide +kernel
theorem dX5_cooled_9 : decode cX5_cooled 9 = .ok (.ireturn, 1) := by decide +kernel
set_option maxRecDepth 20000 in
theorem ggX5_addBlock_X5_put : GoodIn wsX5_addBlock wsX5_put := goodIn_r _ [6, 1, 7, 8, 9, 10, 11, 12, 13, 14, 15, 16, 17, 18, 19, 20, 21, 22, 23, 24] (by decide +kernel) (by decide +kernel)
set_option maxRecDepth 20000 in
theorem gX5_addBlock_X5_put : GoodIn wsX5_addBlock (wsV RX5 67 RX5 yX5_put wsX5_put) := goodIn_app (goodIn_of _ (by decide +kernel)) ggX5_addBlock_X5_put
theorem dX5_addBlock_0 : decode cX5_addBlock 0 = .ok (.aload_n 0, 1) := by decide +kernel
theorem dX5_addBlock_1 : decode cX5_addBlock 1 = .ok (.getfield 7, 3) := by decide +kernel
theorem dX5_addBlock_4 : decode cX5_addBlock 4 = .ok (.bipush 8, 2) := by decide +kernel
theorem dX5_addBlock_6 : decode cX5_addBlock 6 = .ok (.iaload, 1) := by decide +kernel
theorem dX5_addBlock_7 : decode cX5_addBlock 7 = .ok (.istore_n 3, 1) := by decide +kernel
theorem dX5_addBlock_8 : decode cX5_addBlock 8 = .ok (.iconst 0, 1) := by decide +kernel
theorem dX5_addBlock_9 : decode cX5_addBlock 9 = .ok (.istore 4, 2) := by decide +kernel
theorem dX5_addBlock_11 : decode cX5_addBlock 11 = .ok (.iload 4, 2) := by decide +kernel
theorem dX5_addBlock_13 : decode cX5_addBlock 13 = .ok (.bipush 7, 2) := by decide +kernel
theorem dX5_addBlock_15 : decode cX5_addBlock 15 = .ok (.if_icmp .ge 17, 3) := by decide +kernel
theorem dX5_addBlock_18 : decode cX5_addBlock 18 = .ok (.aload_n 0, 1) := by decide +kernel
theorem dX5_addBlock_19 : decode cX5_addBlock 19 = .ok (.iload_n 3, 1) := by decide +kernel
theorem dX5_addBlock_20 : decode cX5_addBlock 20 = .ok (.iload 4, 2) := by decide +kernel
theorem dX5_addBlock_22 : decode cX5_addBlock 22 = .ok (.iconst 0, 1) := by decide +kernel
theorem dX5_addBlock_23 : decode cX5_addBlock 23 = .ok (.invokevirtual 67, 3) := by decide +kernel
theorem dX5_addBlock_26 : decode cX5_addBlock 26 = .ok (.iinc 4 1, 3) := by decide +kernel
theorem dX5_addBlock_29 : decode cX5_addBlock 29 = .ok (.goto (-18), 3) := by decide +kernel
theorem dX5_addBlock_32 : decode cX5_addBlock 32 = .ok (.aload_n 0, 1) := by decide +kernel
theorem dX5_addBlock_33 : decode cX5_addBlock 33 = .ok (.iload_n 3, 1) := by decide +kernel
theorem dX5_addBlock_34 : decode cX5_addBlock 34 = .ok (.iconst 0, 1) := by decide +kernel
theorem dX5_addBlock_35 : decode cX5_addBlock 35 = .ok (.iload_n 1, 1) := by decide +kernel
theorem dX5_addBlock_36 : decode cX5_addBlock 36 = .ok (.invokevirtual 67, 3) := by decide +kernel
theorem dX5_addBlock_39 : decode cX5_addBlock 39 = .ok (.aload_n 0, 1) := by decide +kernel
theorem dX5_addBlock_40 : decode cX5_addBlock 40 = .ok (.iload_n 3, 1) := by decide +kernel
theorem dX5_addBlock_41 : decode cX5_addBlock 41 = .ok (.iconst 1, 1) := by decide +kernel
theorem dX5_addBlock_42 : decode cX5_addBlock 42 = .ok (.iload_n 2, 1) := by decide +kernel
theorem dX5_addBlock_43 : decode cX5_addBlock 43 = .ok (.invokevirtual 67, 3) := by decide +kernel
theorem dX5_addBlock_46 : decode cX5_addBlock 46 = .ok (.aload_n 0, 1) := by decide +kernel
theorem dX5_addBlock_47 : decode cX5_addBlock 47 = .ok (.iload_n 3, 1) := by decide +kernel
theorem dX5_addBlock_48 : decode cX5_addBlock 48 = .ok (.iconst 4, 1) := by decide +kernel
theorem dX5_addBlock_49 : decode cX5_addBlock 49 = .ok (.iconst (-1), 1) := by decide +kernel
theorem dX5_addBlock_50 : decode cX5_addBlock 50 = .ok (.invokevirtual 67, 3) := by decide +kernel
theorem dX5_addBlock_53 : decode cX5_addBlock 53 = .ok (.aload_n 0, 1) := by decide +kernel
theorem dX5_addBlock_54 : decode cX5_addBlock 54 = .ok (.iload_n 3, 1) := by decide +kernel
theorem dX5_addBlock_55 : decode cX5_addBlock 55 = .ok (.iconst 5, 1) := by decide +kernel
theorem dX5_addBlock_56 : decode cX5_addBlock 56 = .ok (.iconst (-1), 1) := by decide +kernel
theorem dX5_addBlock_57 : decode cX5_addBlock 57 = .ok (.invokevirtual 67, 3) := by decide +kernel
theorem dX5_addBlock_60 : decode cX5_addBlock 60 = .ok (.aload_n 0, 1) := by decide +kernel
theorem dX5_addBlock_61 : decode cX5_addBlock 61 = .ok (.getfield 7, 3) := by decide +kernel
theorem dX5_addBlock_64 : decode cX5_addBlock 64 = .ok (.bipush 8, 2) := by decide +kernel
theorem dX5_addBlock_66 : decode cX5_addBlock 66 = .ok (.dup2, 1) := by decide +kernel
theorem dX5_addBlock_67 : decode cX5_addBlock 67 = .ok (.iaload, 1) := by decide +kernel
theorem dX5_addBlock_68 : decode cX5_addBlock 68 = .ok (.iconst 1, 1) := by decide +kernel
theorem dX5_addBlock_69 : decode cX5_addBlock 69 = .ok (.iadd, 1) := by decide +kernel
theorem dX5_addBlock_70 : decode cX5_addBlock 70 = .ok (.iastore, 1) := by decide +kernel
theorem dX5_addBlock_71 : decode cX5_addBlock 71 = .ok (.iload_n 3, 1) := by decide +kernel
theorem dX5_addBlock_72 : decode cX5_addBlock 72 = .ok (.ireturn, 1) := by decide +kernel
set_option maxRecDepth 20000 in
theorem ggX5_warm_X5_of : GoodIn wsX5_warm wsX5_of := goodIn_r _ [5, 6, 11, 12, 13, 14, 15, 16, 17, 18, 19, 20, 21, 22, 23, 24, 25, 26, 27, 28] (by decide +kernel) (by decide +kernel)
set_option maxRecDepth 20000 in
theorem gX5_warm_X5_of : GoodIn wsX5_warm (wsV RX5 57 RX5 yX5_of wsX5_of) := goodIn_app (goodIn_of _ (by decide +kernel)) ggX5_warm_X5_of
set_option maxRecDepth 20000 in
theorem ggX5_warm_X5_put : GoodIn wsX5_warm wsX5_put := goodIn_r _ [10, 6, 11, 12, 13, 14, 15, 16, 17, 18, 19, 20, 21, 22, 23, 24, 25, 26, 27, 28] (by decide +kernel) (by decide +kernel)
set_option maxRecDepth 20000 in
theorem gX5_warm_X5_put : GoodIn wsX5_warm (wsV RX5 67 RX5 yX5_put wsX5_put) := goodIn_app (goodIn_of _ (by decide +kernel)) ggX5_warm_X5_put
theorem dX5_warm_0 : decode cX5_warm 0 = .ok (.aload_n 0, 1) := by decide +kernel
theorem dX5_warm_1 : decode cX5_warm 1 = .ok (.iload_n 1, 1) := by decide +kernel
theorem dX5_warm_2 : decode cX5_warm 2 = .ok (.iconst 3, 1) := by decide +kernel
theorem dX5_warm_3 : decode cX5_warm 3 = .ok (.invokevirtual 57, 3) := by decide +kernel
theorem dX5_warm_6 : decode cX5_warm 6 = .ok (.iload_n 2, 1) := by decide +kernel
theorem dX5_warm_7 : decode cX5_warm 7 = .ok (.iadd, 1) := by decide +kernel
theorem dX5_warm_8 : decode cX5_warm 8 = .ok (.istore_n 3, 1) := by decide +kernel
theorem dX5_warm_9 : decode cX5_warm 9 = .ok (.aload_n 0, 1) := by decide +kernel
theorem dX5_warm_10 : decode cX5_warm 10 = .ok (.iload_n 1, 1) := by decide +kernel
theorem dX5_warm_11 : decode cX5_warm 11 = .ok (.iconst 3, 1) := by decide +kernel
theorem dX5_warm_12 : decode cX5_warm 12 = .ok (.iload_n 3, 1) := by decide +kernel
theorem dX5_warm_13 : decode cX5_warm 13 = .ok (.sipush 1000, 3) := by decide +kernel
theorem dX5_warm_16 : decode cX5_warm 16 = .ok (.if_icmp .le 9, 3) := by decide +kernel
theorem dX5_warm_19 : decode cX5_warm 19 = .ok (.sipush 1000, 3) := by decide +kernel
theorem dX5_warm_22 : decode cX5_warm 22 = .ok (.goto 4, 3) := by decide +kernel
theorem dX5_warm_25 : decode cX5_warm 25 = .ok (.iload_n 3, 1) := by decide +kernel
theorem dX5_warm_26 : decode cX5_warm 26 = .ok (.invokevirtual 67, 3) := by decide +kernel
theorem dX5_warm_29 : decode cX5_warm 29 = .ok (.return_, 1) := by decide +kernel
set_option maxRecDepth 20000 in
theorem ggX5_holdNow_X5_warm : GoodIn wsX5_holdNow wsX5_warm := goodIn_r _ [5, 6, 7, 8, 4, 9, 10, 11, 12, 13, 14, 15, 16, 17, 18, 19, 20, 21, 22, 23, 24, 25, 26, 27, 28, 29, 30, 31, 32] (by decide +kernel) (by decide +kernel)
set_option maxRecDepth 20000 in
theorem gX5_holdNow_X5_warm : GoodIn wsX5_holdNow (wsV RX5 71 RX5 yX5_warm wsX5_warm) := goodIn_app (goodIn_of _ (by decide +kernel)) ggX5_holdNow_X5_warm
set_option maxRecDepth 20000 in
theorem ggX5_holdNow_X5_of : GoodIn wsX5_holdNow wsX5_of := goodIn_r _ [9, 10, 15, 16, 17, 18, 19, 20, 21, 22, 23, 24, 25, 26, 27, 28, 29, 30, 31, 32] (by decide +kernel) (by decide +kernel)
set_option maxRecDepth 20000 in
theorem gX5_holdNow_X5_of : GoodIn wsX5_holdNow (wsV RX5 57 RX5 yX5_of wsX5_of) := goodIn_app (goodIn_of _ (by decide +kernel)) ggX5_holdNow_X5_of
theorem dX5_holdNow_0 : decode cX5_holdNow 0 = .ok (.aload_n 0, 1) := by decide +kernel
theorem dX5_holdNow_1 : decode cX5_holdNow 1 = .ok (.iload_n 1, 1) := by decide +kernel
theorem dX5_holdNow_2 : decode cX5_holdNow 2 = .ok (.iconst 5, 1) := by decide +kernel
theorem dX5_holdNow_3 : decode cX5_holdNow 3 = .ok (.iload_n 2, 1) := by decide +kernel
theorem dX5_holdNow_4 : decode cX5_holdNow 4 = .ok (.imul, 1) := by decide +kernel
theorem dX5_holdNow_5 : decode cX5_holdNow 5 = .ok (.invokevirtual 71, 3) := by decide +kernel
theorem dX5_holdNow_8 : decode cX5_holdNow 8 = .ok (.aload_n 0, 1) := by decide +kernel
theorem dX5_holdNow_9 : decode cX5_holdNow 9 = .ok (.iload_n 1, 1) := by decide +kernel
theorem dX5_holdNow_10 : decode cX5_holdNow 10 = .ok (.iconst 3, 1) := by decide +kernel
theorem dX5_holdNow_11 : decode cX5_holdNow 11 = .ok (.invokevirtual 57, 3) := by decide +kernel
theorem dX5_holdNow_14 : decode cX5_holdNow 14 = .ok (.ireturn, 1) := by decide +kernel
set_option maxRecDepth 20000 in
theorem ggX5_restNow_X5_of : GoodIn wsX5_restNow wsX5_of := goodIn_r _ [6, 1, 14, 15, 16, 17, 18, 19, 20, 21, 22, 23, 24, 25, 26, 27, 28, 29, 30, 31] (by decide +kernel) (by decide +kernel)
set_option maxRecDepth 20000 in
theorem gX5_restNow_X5_of : GoodIn wsX5_restNow (wsV RX5 57 RX5 yX5_of wsX5_of) := goodIn_app (goodIn_of _ (by decide +kernel)) ggX5_restNow_X5_of
set_option maxRecDepth 20000 in
theorem ggX5_restNow_X5_cooled : GoodIn wsX5_restNow wsX5_cooled := goodIn_r _ [9] (by decide +kernel) (by decide +kernel)
set_option maxRecDepth 20000 in
theorem gX5_restNow_X5_cooled : GoodIn wsX5_restNow (va_wsS RX5 75 yX5_cooled wsX5_cooled) := goodIn_app (goodIn_of _ (by decide +kernel)) ggX5_restNow_X5_cooled
set_option maxRecDepth 20000 in
theorem ggX5_restNow_X5_put : GoodIn wsX5_restNow wsX5_put := goodIn_r _ [13, 1, 14, 15, 16, 17, 18, 19, 20, 21, 22, 23, 24, 25, 26, 27, 28, 29, 30, 31] (by decide +kernel) (by decide +kernel)
set_option maxRecDepth 20000 in
theorem gX5_restNow_X5_put : GoodIn wsX5_restNow (wsV RX5 67 RX5 yX5_put wsX5_put) := goodIn_app (goodIn_of _ (by decide +kernel)) ggX5_restNow_X5_put
theorem dX5_restNow_0 : decode cX5_restNow 0 = .ok (.iconst 0, 1) := by decide +kernel
theorem dX5_restNow_1 : decode cX5_restNow 1 = .ok (.istore_n 2, 1) := by decide +kernel
theorem dX5_restNow_2 : decode cX5_restNow 2 = .ok (.iconst 0, 1) := by decide +kernel
theorem dX5_restNow_3 : decode cX5_restNow 3 = .ok (.istore_n 3, 1) := by decide +kernel
theorem dX5_restNow_4 : decode cX5_restNow 4 = .ok (.iload_n 3, 1) := by decide +kernel
theorem dX5_restNow_5 : decode cX5_restNow 5 = .ok (.aload_n 0, 1) := by decide +kernel
theorem dX5_restNow_6 : decode cX5_restNow 6 = .ok (.getfield 7, 3) := by decide +kernel
theorem dX5_restNow_9 : decode cX5_restNow 9 = .ok (.bipush 8, 2) := by decide +kernel
theorem dX5_restNow_11 : decode cX5_restNow 11 = .ok (.iaload, 1) := by decide +kernel
theorem dX5_restNow_12 : decode cX5_restNow 12 = .ok (.if_icmp .ge 60, 3) := by decide +kernel
theorem dX5_restNow_15 : decode cX5_restNow 15 = .ok (.iconst 0, 1) := by decide +kernel
theorem dX5_restNow_16 : decode cX5_restNow 16 = .ok (.istore 4, 2) := by decide +kernel
theorem dX5_restNow_18 : decode cX5_restNow 18 = .ok (.iload 4, 2) := by decide +kernel
theorem dX5_restNow_20 : decode cX5_restNow 20 = .ok (.iload_n 1, 1) := by decide +kernel
theorem dX5_restNow_21 : decode cX5_restNow 21 = .ok (.if_icmp .ge 24, 3) := by decide +kernel
theorem dX5_restNow_24 : decode cX5_restNow 24 = .ok (.aload_n 0, 1) := by decide +kernel
theorem dX5_restNow_25 : decode cX5_restNow 25 = .ok (.iload_n 3, 1) := by decide +kernel
theorem dX5_restNow_26 : decode cX5_restNow 26 = .ok (.iconst 3, 1) := by decide +kernel
theorem dX5_restNow_27 : decode cX5_restNow 27 = .ok (.aload_n 0, 1) := by decide +kernel
theorem dX5_restNow_28 : decode cX5_restNow 28 = .ok (.iload_n 3, 1) := by decide +kernel
theorem dX5_restNow_29 : decode cX5_restNow 29 = .ok (.iconst 3, 1) := by decide +kernel
theorem dX5_restNow_30 : decode cX5_restNow 30 = .ok (.invokevirtual 57, 3) := by decide +kernel
theorem dX5_restNow_33 : decode cX5_restNow 33 = .ok (.invokestatic 75, 3) := by decide +kernel
theorem dX5_restNow_36 : decode cX5_restNow 36 = .ok (.invokevirtual 67, 3) := by decide +kernel
theorem dX5_restNow_39 : decode cX5_restNow 39 = .ok (.iinc 4 1, 3) := by decide +kernel
theorem dX5_restNow_42 : decode cX5_restNow 42 = .ok (.goto (-24), 3) := by decide +kernel
theorem dX5_restNow_45 : decode cX5_restNow 45 = .ok (.aload_n 0, 1) := by decide +kernel
theorem dX5_restNow_46 : decode cX5_restNow 46 = .ok (.iload_n 3, 1) := by decide +kernel
theorem dX5_restNow_47 : decode cX5_restNow 47 = .ok (.iconst 3, 1) := by decide +kernel
theorem dX5_restNow_48 : decode cX5_restNow 48 = .ok (.invokevirtual 57, 3) := by decide +kernel
theorem dX5_restNow_51 : decode cX5_restNow 51 = .ok (.iload_n 2, 1) := by decide +kernel
theorem dX5_restNow_52 : decode cX5_restNow 52 = .ok (.if_icmp .le 12, 3) := by decide +kernel
theorem dX5_restNow_55 : decode cX5_restNow 55 = .ok (.aload_n 0, 1) := by decide +kernel
theorem dX5_restNow_56 : decode cX5_restNow 56 = .ok (.iload_n 3, 1) := by decide +kernel
theorem dX5_restNow_57 : decode cX5_restNow 57 = .ok (.iconst 3, 1) := by decide +kernel
theorem dX5_restNow_58 : decode cX5_restNow 58 = .ok (.invokevirtual 57, 3) := by decide +kernel
theorem dX5_restNow_61 : decode cX5_restNow 61 = .ok (.goto 4, 3) := by decide +kernel
theorem dX5_restNow_64 : decode cX5_restNow 64 = .ok (.iload_n 2, 1) := by decide +kernel
theorem dX5_restNow_65 : decode cX5_restNow 65 = .ok (.istore_n 2, 1) := by decide +kernel
theorem dX5_restNow_66 : decode cX5_restNow 66 = .ok (.iinc 3 1, 3) := by decide +kernel
theorem dX5_restNow_69 : decode cX5_restNow 69 = .ok (.goto (-65), 3) := by decide +kernel
theorem dX5_restNow_72 : decode cX5_restNow 72 = .ok (.aload_n 0, 1) := by decide +kernel
theorem dX5_restNow_73 : decode cX5_restNow 73 = .ok (.getfield 7, 3) := by decide +kernel
theorem dX5_restNow_76 : decode cX5_restNow 76 = .ok (.iconst 4, 1) := by decide +kernel
theorem dX5_restNow_77 : decode cX5_restNow 77 = .ok (.dup2, 1) := by decide +kernel
theorem dX5_restNow_78 : decode cX5_restNow 78 = .ok (.iaload, 1) := by decide +kernel
theorem dX5_restNow_79 : decode cX5_restNow 79 = .ok (.iload_n 1, 1) := by decide +kernel
theorem dX5_restNow_80 : decode cX5_restNow 80 = .ok (.iadd, 1) := by decide +kernel
theorem dX5_restNow_81 : decode cX5_restNow 81 = .ok (.iastore, 1) := by decide +kernel
theorem dX5_restNow_82 : decode cX5_restNow 82 = .ok (.iload_n 2, 1) := by decide +kernel
theorem dX5_restNow_83 : decode cX5_restNow 83 = .ok (.ireturn, 1) := by decide +kernel
set_option maxRecDepth 20000 in
theorem ggX5_reason_X5_isFree : GoodIn wsX5_reason wsX5_isFree := goodIn_r _ [6, 7, 8, 9, 5, 10, 1, 26, 27, 28, 29, 30, 31, 32, 33, 34, 35, 36, 37, 38, 39, 40, 41, 42, 43] (by decide +kernel) (by decide +kernel)
set_option maxRecDepth 20000 in
theorem gX5_reason_X5_isFree : GoodIn wsX5_reason (wsV RX5 78 RX5 yX5_isFree wsX5_isFree) := goodIn_app (goodIn_of _ (by decide +kernel)) ggX5_reason_X5_isFree
set_option maxRecDepth 20000 in
theorem ggX5_reason_X5_height : GoodIn wsX5_reason wsX5_height := goodIn_r _ [14, 1, 7, 8, 9, 5, 10, 26, 27, 28, 29, 30, 31, 32, 33, 34, 35, 36, 37, 38, 39, 40, 41, 42, 43] (by decide +kernel) (by decide +kernel)
set_option maxRecDepth 20000 in
theorem gX5_reason_X5_height : GoodIn wsX5_reason (wsV RX5 82 RX5 yX5_height wsX5_height) := goodIn_app (goodIn_of _ (by decide +kernel)) ggX5_reason_X5_height
set_option maxRecDepth 20000 in
theorem ggX5_reason_X5_of : GoodIn wsX5_reason wsX5_of := goodIn_r _ [10, 1, 26, 27, 28, 29, 30, 31, 32, 33, 34, 35, 36, 37, 38, 39, 40, 41, 42, 43] (by decide +kernel) (by decide +kernel)
set_option maxRecDepth 20000 in
theorem gX5_reason_X5_of : GoodIn wsX5_reason (wsV RX5 57 RX5 yX5_of wsX5_of) := goodIn_app (goodIn_of _ (by decide +kernel)) ggX5_reason_X5_of
set_option maxRecDepth 20000 in
theorem ggX5_reason_X5_grade : GoodIn wsX5_reason wsX5_grade := goodIn_r _ [18, 19, 20, 21, 5, 22, 7, 8, 9, 10, 1, 23, 24, 25, 26, 27, 28, 29, 30, 31, 32, 33, 34, 35, 36, 37, 38, 39, 40, 41, 42, 43] (by decide +kernel) (by decide +kernel)
set_option maxRecDepth 20000 in
theorem gX5_reason_X5_grade : GoodIn wsX5_reason (wsV RX5 85 RX5 yX5_grade wsX5_grade) := goodIn_app (goodIn_of _ (by decide +kernel)) ggX5_reason_X5_grade
theorem dX5_reason_0 : decode cX5_reason 0 = .ok (.aload_n 0, 1) := by decide +kernel
theorem dX5_reason_1 : decode cX5_reason 1 = .ok (.iload_n 2, 1) := by decide +kernel
theorem dX5_reason_2 : decode cX5_reason 2 = .ok (.invokevirtual 78, 3) := by decide +kernel
theorem dX5_reason_5 : decode cX5_reason 5 = .ok (.ifCond .ne 5, 3) := by decide +kernel
theorem dX5_reason_8 : decode cX5_reason 8 = .ok (.iconst 1, 1) := by decide +kernel
theorem dX5_reason_9 : decode cX5_reason 9 = .ok (.ireturn, 1) := by decide +kernel
theorem dX5_reason_10 : decode cX5_reason 10 = .ok (.aload_n 0, 1) := by decide +kernel
theorem dX5_reason_11 : decode cX5_reason 11 = .ok (.iload_n 1, 1) := by decide +kernel
theorem dX5_reason_12 : decode cX5_reason 12 = .ok (.invokevirtual 82, 3) := by decide +kernel
theorem dX5_reason_15 : decode cX5_reason 15 = .ok (.bipush 6, 2) := by decide +kernel
theorem dX5_reason_17 : decode cX5_reason 17 = .ok (.if_icmp .ne 5, 3) := by decide +kernel
theorem dX5_reason_20 : decode cX5_reason 20 = .ok (.iconst 2, 1) := by decide +kernel
theorem dX5_reason_21 : decode cX5_reason 21 = .ok (.ireturn, 1) := by decide +kernel
theorem dX5_reason_22 : decode cX5_reason 22 = .ok (.aload_n 0, 1) := by decide +kernel
theorem dX5_reason_23 : decode cX5_reason 23 = .ok (.iload_n 2, 1) := by decide +kernel
theorem dX5_reason_24 : decode cX5_reason 24 = .ok (.iconst 3, 1) := by decide +kernel
theorem dX5_reason_25 : decode cX5_reason 25 = .ok (.invokevirtual 57, 3) := by decide +kernel
theorem dX5_reason_28 : decode cX5_reason 28 = .ok (.aload_n 0, 1) := by decide +kernel
theorem dX5_reason_29 : decode cX5_reason 29 = .ok (.getfield 7, 3) := by decide +kernel
theorem dX5_reason_32 : decode cX5_reason 32 = .ok (.iconst 1, 1) := by decide +kernel
theorem dX5_reason_33 : decode cX5_reason 33 = .ok (.iaload, 1) := by decide +kernel
theorem dX5_reason_34 : decode cX5_reason 34 = .ok (.if_icmp .le 7, 3) := by decide +kernel
theorem dX5_reason_37 : decode cX5_reason 37 = .ok (.iconst 3, 1) := by decide +kernel
theorem dX5_reason_38 : decode cX5_reason 38 = .ok (.goto 17, 3) := by decide +kernel
theorem dX5_reason_41 : decode cX5_reason 41 = .ok (.aload_n 0, 1) := by decide +kernel
theorem dX5_reason_42 : decode cX5_reason 42 = .ok (.iload_n 2, 1) := by decide +kernel
theorem dX5_reason_43 : decode cX5_reason 43 = .ok (.invokevirtual 85, 3) := by decide +kernel
theorem dX5_reason_46 : decode cX5_reason 46 = .ok (.iconst 3, 1) := by decide +kernel
theorem dX5_reason_47 : decode cX5_reason 47 = .ok (.if_icmp .ne 7, 3) := by decide +kernel
theorem dX5_reason_50 : decode cX5_reason 50 = .ok (.iconst 4, 1) := by decide +kernel
theorem dX5_reason_51 : decode cX5_reason 51 = .ok (.goto 4, 3) := by decide +kernel
theorem dX5_reason_54 : decode cX5_reason 54 = .ok (.iconst 0, 1) := by decide +kernel
theorem dX5_reason_55 : decode cX5_reason 55 = .ok (.ireturn, 1) := by decide +kernel
set_option maxRecDepth 20000 in
theorem ggX5_rub_X5_warm : GoodIn wsX5_rub wsX5_warm := goodIn_r _ [6, 7, 8, 9, 5, 10, 1, 11, 12, 13, 14, 19, 20, 21, 22, 23, 24, 25, 26, 27, 28, 29, 30, 31, 32, 33, 34, 35, 36] (by decide +kernel) (by decide +kernel)
set_option maxRecDepth 20000 in
theorem gX5_rub_X5_warm : GoodIn wsX5_rub (wsV RX5 71 RX5 yX5_warm wsX5_warm) := goodIn_app (goodIn_of _ (by decide +kernel)) ggX5_rub_X5_warm
set_option maxRecDepth 20000 in
theorem ggX5_rub_X5_of : GoodIn wsX5_rub wsX5_of := goodIn_r _ [10, 1, 19, 20, 21, 22, 23, 24, 25, 26, 27, 28, 29, 30, 31, 32, 33, 34, 35, 36] (by decide +kernel) (by decide +kernel)
set_option maxRecDepth 20000 in
theorem gX5_rub_X5_of : GoodIn wsX5_rub (wsV RX5 57 RX5 yX5_of wsX5_of) := goodIn_app (goodIn_of _ (by decide +kernel)) ggX5_rub_X5_of
set_option maxRecDepth 20000 in
theorem ggX5_rub_X5_blockAt : GoodIn wsX5_rub wsX5_blockAt := goodIn_r _ [18, 1, 7, 8, 9, 5, 10, 19, 20, 21, 22, 23, 24, 25, 26, 27, 28, 29, 30, 31, 32, 33, 34, 35, 36] (by decide +kernel) (by decide +kernel)
set_option maxRecDepth 20000 in
theorem gX5_rub_X5_blockAt : GoodIn wsX5_rub (wsV RX5 88 RX5 yX5_blockAt wsX5_blockAt) := goodIn_app (goodIn_of _ (by decide +kernel)) ggX5_rub_X5_blockAt
set_option maxRecDepth 20000 in
theorem ggX5_rub_X5_put : GoodIn wsX5_rub wsX5_put := goodIn_r _ [14, 1, 19, 20, 21, 22, 23, 24, 25, 26, 27, 28, 29, 30, 31, 32, 33, 34, 35, 36] (by decide +kernel) (by decide +kernel)
set_option maxRecDepth 20000 in
theorem gX5_rub_X5_put : GoodIn wsX5_rub (wsV RX5 67 RX5 yX5_put wsX5_put) := goodIn_app (goodIn_of _ (by decide +kernel)) ggX5_rub_X5_put
theorem dX5_rub_0 : decode cX5_rub 0 = .ok (.aload_n 0, 1) := by decide +kernel
theorem dX5_rub_1 : decode cX5_rub 1 = .ok (.iload_n 2, 1) := by decide +kernel
theorem dX5_rub_2 : decode cX5_rub 2 = .ok (.aload_n 0, 1) := by decide +kernel
theorem dX5_rub_3 : decode cX5_rub 3 = .ok (.getfield 7, 3) := by decide +kernel
theorem dX5_rub_6 : decode cX5_rub 6 = .ok (.iconst 3, 1) := by decide +kernel
theorem dX5_rub_7 : decode cX5_rub 7 = .ok (.iaload, 1) := by decide +kernel
theorem dX5_rub_8 : decode cX5_rub 8 = .ok (.invokevirtual 71, 3) := by decide +kernel
theorem dX5_rub_11 : decode cX5_rub 11 = .ok (.aload_n 0, 1) := by decide +kernel
theorem dX5_rub_12 : decode cX5_rub 12 = .ok (.iload_n 1, 1) := by decide +kernel
theorem dX5_rub_13 : decode cX5_rub 13 = .ok (.aload_n 0, 1) := by decide +kernel
theorem dX5_rub_14 : decode cX5_rub 14 = .ok (.iload_n 2, 1) := by decide +kernel
theorem dX5_rub_15 : decode cX5_rub 15 = .ok (.iconst 5, 1) := by decide +kernel
theorem dX5_rub_16 : decode cX5_rub 16 = .ok (.invokevirtual 57, 3) := by decide +kernel
theorem dX5_rub_19 : decode cX5_rub 19 = .ok (.iconst 1, 1) := by decide +kernel
theorem dX5_rub_20 : decode cX5_rub 20 = .ok (.isub, 1) := by decide +kernel
theorem dX5_rub_21 : decode cX5_rub 21 = .ok (.invokevirtual 88, 3) := by decide +kernel
theorem dX5_rub_24 : decode cX5_rub 24 = .ok (.istore_n 3, 1) := by decide +kernel
theorem dX5_rub_25 : decode cX5_rub 25 = .ok (.iload_n 3, 1) := by decide +kernel
theorem dX5_rub_26 : decode cX5_rub 26 = .ok (.iconst (-1), 1) := by decide +kernel
theorem dX5_rub_27 : decode cX5_rub 27 = .ok (.if_icmp .eq 41, 3) := by decide +kernel
theorem dX5_rub_30 : decode cX5_rub 30 = .ok (.aload_n 0, 1) := by decide +kernel
theorem dX5_rub_31 : decode cX5_rub 31 = .ok (.iload_n 3, 1) := by decide +kernel
theorem dX5_rub_32 : decode cX5_rub 32 = .ok (.iconst 2, 1) := by decide +kernel
theorem dX5_rub_33 : decode cX5_rub 33 = .ok (.aload_n 0, 1) := by decide +kernel
theorem dX5_rub_34 : decode cX5_rub 34 = .ok (.iload_n 3, 1) := by decide +kernel
theorem dX5_rub_35 : decode cX5_rub 35 = .ok (.iconst 2, 1) := by decide +kernel
theorem dX5_rub_36 : decode cX5_rub 36 = .ok (.invokevirtual 57, 3) := by decide +kernel
theorem dX5_rub_39 : decode cX5_rub 39 = .ok (.aload_n 0, 1) := by decide +kernel
theorem dX5_rub_40 : decode cX5_rub 40 = .ok (.getfield 7, 3) := by decide +kernel
theorem dX5_rub_43 : decode cX5_rub 43 = .ok (.iconst 2, 1) := by decide +kernel
theorem dX5_rub_44 : decode cX5_rub 44 = .ok (.iaload, 1) := by decide +kernel
theorem dX5_rub_45 : decode cX5_rub 45 = .ok (.iadd, 1) := by decide +kernel
theorem dX5_rub_46 : decode cX5_rub 46 = .ok (.invokevirtual 67, 3) := by decide +kernel
theorem dX5_rub_49 : decode cX5_rub 49 = .ok (.aload_n 0, 1) := by decide +kernel
theorem dX5_rub_50 : decode cX5_rub 50 = .ok (.iload_n 2, 1) := by decide +kernel
theorem dX5_rub_51 : decode cX5_rub 51 = .ok (.iconst 2, 1) := by decide +kernel
theorem dX5_rub_52 : decode cX5_rub 52 = .ok (.aload_n 0, 1) := by decide +kernel
theorem dX5_rub_53 : decode cX5_rub 53 = .ok (.iload_n 2, 1) := by decide +kernel
theorem dX5_rub_54 : decode cX5_rub 54 = .ok (.iconst 2, 1) := by decide +kernel
theorem dX5_rub_55 : decode cX5_rub 55 = .ok (.invokevirtual 57, 3) := by decide +kernel
theorem dX5_rub_58 : decode cX5_rub 58 = .ok (.aload_n 0, 1) := by decide +kernel
theorem dX5_rub_59 : decode cX5_rub 59 = .ok (.getfield 7, 3) := by decide +kernel
theorem dX5_rub_62 : decode cX5_rub 62 = .ok (.iconst 2, 1) := by decide +kernel
theorem dX5_rub_63 : decode cX5_rub 63 = .ok (.iaload, 1) := by decide +kernel
theorem dX5_rub_64 : decode cX5_rub 64 = .ok (.iadd, 1) := by decide +kernel
theorem dX5_rub_65 : decode cX5_rub 65 = .ok (.invokevirtual 67, 3) := by decide +kernel
theorem dX5_rub_68 : decode cX5_rub 68 = .ok (.return_, 1) := by decide +kernel
set_option maxRecDepth 20000 in
theorem ggX5_wringNow_X5_reason : GoodIn wsX5_wringNow wsX5_reason := goodIn_r _ [6, 1, 7, 8, 9, 5, 10, 11, 12, 13, 14, 15, 16, 17, 18, 19, 20, 21, 22, 23, 24, 25, 26, 27, 28, 29, 46, 47, 48, 49, 50, 51, 52, 53, 54, 55, 56, 57, 58, 59, 60, 61, 62, 63] (by decide +kernel) (by decide +kernel)
set_option maxRecDepth 20000 in
theorem gX5_wringNow_X5_reason : GoodIn wsX5_wringNow (wsV RX5 91 RX5 yX5_reason wsX5_reason) := goodIn_app (goodIn_of _ (by decide +kernel)) ggX5_wringNow_X5_reason
set_option maxRecDepth 20000 in
theorem ggX5_wringNow_X5_height : GoodIn wsX5_wringNow wsX5_height := goodIn_r _ [18, 1, 11, 12, 13, 5, 14, 46, 47, 48, 49, 50, 51, 52, 53, 54, 55, 56, 57, 58, 59, 60, 61, 62, 63] (by decide +kernel) (by decide +kernel)
set_option maxRecDepth 20000 in
theorem gX5_wringNow_X5_height : GoodIn wsX5_wringNow (wsV RX5 82 RX5 yX5_height wsX5_height) := goodIn_app (goodIn_of _ (by decide +kernel)) ggX5_wringNow_X5_height
set_option maxRecDepth 20000 in
theorem ggX5_wringNow_X5_put : GoodIn wsX5_wringNow wsX5_put := goodIn_r _ [33, 1, 46, 47, 48, 49, 50, 51, 52, 53, 54, 55, 56, 57, 58, 59, 60, 61, 62, 63] (by decide +kernel) (by decide +kernel)
set_option maxRecDepth 20000 in
theorem gX5_wringNow_X5_put : GoodIn wsX5_wringNow (wsV RX5 67 RX5 yX5_put wsX5_put) := goodIn_app (goodIn_of _ (by decide +kernel)) ggX5_wringNow_X5_put
set_option maxRecDepth 20000 in
theorem ggX5_wringNow_X5_rub : GoodIn wsX5_wringNow wsX5_rub := goodIn_r _ [37, 1, 38, 39, 40, 5, 41, 11, 12, 13, 14, 30, 31, 32, 33, 42, 43, 44, 45, 46, 47, 48, 49, 50, 51, 52, 53, 54, 55, 56, 57, 58, 59, 60, 61, 62, 63] (by decide +kernel) (by decide +kernel)
set_option maxRecDepth 20000 in
theorem gX5_wringNow_X5_rub : GoodIn wsX5_wringNow (wsV RX5 94 RX5 yX5_rub wsX5_rub) := goodIn_app (goodIn_of _ (by decide +kernel)) ggX5_wringNow_X5_rub
set_option maxRecDepth 20000 in
theorem ggX5_wringNow_X5_of : GoodIn wsX5_wringNow wsX5_of := goodIn_r _ [14, 1, 46, 47, 48, 49, 50, 51, 52, 53, 54, 55, 56, 57, 58, 59, 60, 61, 62, 63] (by decide +kernel) (by decide +kernel)
set_option maxRecDepth 20000 in
theorem gX5_wringNow_X5_of : GoodIn wsX5_wringNow (wsV RX5 57 RX5 yX5_of wsX5_of) := goodIn_app (goodIn_of _ (by decide +kernel)) ggX5_wringNow_X5_of
theorem dX5_wringNow_0 : decode cX5_wringNow 0 = .ok (.aload_n 0, 1) := by decide +kernel
theorem dX5_wringNow_1 : decode cX5_wringNow 1 = .ok (.iload_n 1, 1) := by decide +kernel
theorem dX5_wringNow_2 : decode cX5_wringNow 2 = .ok (.iload_n 2, 1) := by decide +kernel
theorem dX5_wringNow_3 : decode cX5_wringNow 3 = .ok (.invokevirtual 91, 3) := by decide +kernel
theorem dX5_wringNow_6 : decode cX5_wringNow 6 = .ok (.istore_n 3, 1) := by decide +kernel
theorem dX5_wringNow_7 : decode cX5_wringNow 7 = .ok (.iload_n 3, 1) := by decide +kernel
theorem dX5_wringNow_8 : decode cX5_wringNow 8 = .ok (.ifCond .le 16, 3) := by decide +kernel
theorem dX5_wringNow_11 : decode cX5_wringNow 11 = .ok (.aload_n 0, 1) := by decide +kernel
theorem dX5_wringNow_12 : decode cX5_wringNow 12 = .ok (.getfield 7, 3) := by decide +kernel
theorem dX5_wringNow_15 : decode cX5_wringNow 15 = .ok (.bipush 7, 2) := by decide +kernel
theorem dX5_wringNow_17 : decode cX5_wringNow 17 = .ok (.dup2, 1) := by decide +kernel
theorem dX5_wringNow_18 : decode cX5_wringNow 18 = .ok (.iaload, 1) := by decide +kernel
theorem dX5_wringNow_19 : decode cX5_wringNow 19 = .ok (.iconst 1, 1) := by decide +kernel
theorem dX5_wringNow_20 : decode cX5_wringNow 20 = .ok (.iadd, 1) := by decide +kernel
theorem dX5_wringNow_21 : decode cX5_wringNow 21 = .ok (.iastore, 1) := by decide +kernel
theorem dX5_wringNow_22 : decode cX5_wringNow 22 = .ok (.iload_n 3, 1) := by decide +kernel
theorem dX5_wringNow_23 : decode cX5_wringNow 23 = .ok (.ireturn, 1) := by decide +kernel
theorem dX5_wringNow_24 : decode cX5_wringNow 24 = .ok (.aload_n 0, 1) := by decide +kernel
theorem dX5_wringNow_25 : decode cX5_wringNow 25 = .ok (.iload_n 2, 1) := by decide +kernel
theorem dX5_wringNow_26 : decode cX5_wringNow 26 = .ok (.iconst 5, 1) := by decide +kernel
theorem dX5_wringNow_27 : decode cX5_wringNow 27 = .ok (.aload_n 0, 1) := by decide +kernel
theorem dX5_wringNow_28 : decode cX5_wringNow 28 = .ok (.iload_n 1, 1) := by decide +kernel
theorem dX5_wringNow_29 : decode cX5_wringNow 29 = .ok (.invokevirtual 82, 3) := by decide +kernel
theorem dX5_wringNow_32 : decode cX5_wringNow 32 = .ok (.invokevirtual 67, 3) := by decide +kernel
theorem dX5_wringNow_35 : decode cX5_wringNow 35 = .ok (.aload_n 0, 1) := by decide +kernel
theorem dX5_wringNow_36 : decode cX5_wringNow 36 = .ok (.iload_n 2, 1) := by decide +kernel
theorem dX5_wringNow_37 : decode cX5_wringNow 37 = .ok (.iconst 4, 1) := by decide +kernel
theorem dX5_wringNow_38 : decode cX5_wringNow 38 = .ok (.iload_n 1, 1) := by decide +kernel
theorem dX5_wringNow_39 : decode cX5_wringNow 39 = .ok (.invokevirtual 67, 3) := by decide +kernel
theorem dX5_wringNow_42 : decode cX5_wringNow 42 = .ok (.aload_n 0, 1) := by decide +kernel
theorem dX5_wringNow_43 : decode cX5_wringNow 43 = .ok (.iload_n 1, 1) := by decide +kernel
theorem dX5_wringNow_44 : decode cX5_wringNow 44 = .ok (.iload_n 2, 1) := by decide +kernel
theorem dX5_wringNow_45 : decode cX5_wringNow 45 = .ok (.invokevirtual 94, 3) := by decide +kernel
theorem dX5_wringNow_48 : decode cX5_wringNow 48 = .ok (.aload_n 0, 1) := by decide +kernel
theorem dX5_wringNow_49 : decode cX5_wringNow 49 = .ok (.iload_n 2, 1) := by decide +kernel
theorem dX5_wringNow_50 : decode cX5_wringNow 50 = .ok (.bipush 6, 2) := by decide +kernel
theorem dX5_wringNow_52 : decode cX5_wringNow 52 = .ok (.aload_n 0, 1) := by decide +kernel
theorem dX5_wringNow_53 : decode cX5_wringNow 53 = .ok (.iload_n 2, 1) := by decide +kernel
theorem dX5_wringNow_54 : decode cX5_wringNow 54 = .ok (.bipush 6, 2) := by decide +kernel
theorem dX5_wringNow_56 : decode cX5_wringNow 56 = .ok (.invokevirtual 57, 3) := by decide +kernel
theorem dX5_wringNow_59 : decode cX5_wringNow 59 = .ok (.iconst 1, 1) := by decide +kernel
theorem dX5_wringNow_60 : decode cX5_wringNow 60 = .ok (.iadd, 1) := by decide +kernel
theorem dX5_wringNow_61 : decode cX5_wringNow 61 = .ok (.invokevirtual 67, 3) := by decide +kernel
theorem dX5_wringNow_64 : decode cX5_wringNow 64 = .ok (.aload_n 0, 1) := by decide +kernel
theorem dX5_wringNow_65 : decode cX5_wringNow 65 = .ok (.getfield 7, 3) := by decide +kernel
theorem dX5_wringNow_68 : decode cX5_wringNow 68 = .ok (.iconst 5, 1) := by decide +kernel
theorem dX5_wringNow_69 : decode cX5_wringNow 69 = .ok (.dup2, 1) := by decide +kernel
theorem dX5_wringNow_70 : decode cX5_wringNow 70 = .ok (.iaload, 1) := by decide +kernel
theorem dX5_wringNow_71 : decode cX5_wringNow 71 = .ok (.iconst 1, 1) := by decide +kernel
theorem dX5_wringNow_72 : decode cX5_wringNow 72 = .ok (.iadd, 1) := by decide +kernel
theorem dX5_wringNow_73 : decode cX5_wringNow 73 = .ok (.iastore, 1) := by decide +kernel
theorem dX5_wringNow_74 : decode cX5_wringNow 74 = .ok (.iconst 0, 1) := by decide +kernel
theorem dX5_wringNow_75 : decode cX5_wringNow 75 = .ok (.ireturn, 1) := by decide +kernel
set_option maxRecDepth 20000 in
theorem ggX5_takeNow_X5_height : GoodIn wsX5_takeNow wsX5_height := goodIn_r _ [6, 1, 7, 8, 9, 5, 10, 27, 28, 29, 30, 31, 32, 33, 34, 35, 36, 37, 38, 39, 40, 41, 42, 43, 44] (by decide +kernel) (by decide +kernel)
set_option maxRecDepth 20000 in
theorem gX5_takeNow_X5_height : GoodIn wsX5_takeNow (wsV RX5 82 RX5 yX5_height wsX5_height) := goodIn_app (goodIn_of _ (by decide +kernel)) ggX5_takeNow_X5_height
set_option maxRecDepth 20000 in
theorem ggX5_takeNow_X5_blockAt : GoodIn wsX5_takeNow wsX5_blockAt := goodIn_r _ [14, 1, 7, 8, 9, 5, 10, 27, 28, 29, 30, 31, 32, 33, 34, 35, 36, 37, 38, 39, 40, 41, 42, 43, 44] (by decide +kernel) (by decide +kernel)
set_option maxRecDepth 20000 in
theorem gX5_takeNow_X5_blockAt : GoodIn wsX5_takeNow (wsV RX5 88 RX5 yX5_blockAt wsX5_blockAt) := goodIn_app (goodIn_of _ (by decide +kernel)) ggX5_takeNow_X5_blockAt
set_option maxRecDepth 20000 in
theorem ggX5_takeNow_X5_rub : GoodIn wsX5_takeNow wsX5_rub := goodIn_r _ [18, 1, 19, 20, 21, 5, 22, 7, 8, 9, 10, 23, 24, 25, 26, 11, 12, 13, 14, 27, 28, 29, 30, 31, 32, 33, 34, 35, 36, 37, 38, 39, 40, 41, 42, 43, 44] (by decide +kernel) (by decide +kernel)
set_option maxRecDepth 20000 in
theorem gX5_takeNow_X5_rub : GoodIn wsX5_takeNow (wsV RX5 94 RX5 yX5_rub wsX5_rub) := goodIn_app (goodIn_of _ (by decide +kernel)) ggX5_takeNow_X5_rub
set_option maxRecDepth 20000 in
theorem ggX5_takeNow_X5_put : GoodIn wsX5_takeNow wsX5_put := goodIn_r _ [26, 1, 27, 28, 29, 30, 31, 32, 33, 34, 35, 36, 37, 38, 39, 40, 41, 42, 43, 44] (by decide +kernel) (by decide +kernel)
set_option maxRecDepth 20000 in
theorem gX5_takeNow_X5_put : GoodIn wsX5_takeNow (wsV RX5 67 RX5 yX5_put wsX5_put) := goodIn_app (goodIn_of _ (by decide +kernel)) ggX5_takeNow_X5_put
theorem dX5_takeNow_0 : decode cX5_takeNow 0 = .ok (.aload_n 0, 1) := by decide +kernel
theorem dX5_takeNow_1 : decode cX5_takeNow 1 = .ok (.iload_n 1, 1) := by decide +kernel
theorem dX5_takeNow_2 : decode cX5_takeNow 2 = .ok (.aload_n 0, 1) := by decide +kernel
theorem dX5_takeNow_3 : decode cX5_takeNow 3 = .ok (.iload_n 1, 1) := by decide +kernel
theorem dX5_takeNow_4 : decode cX5_takeNow 4 = .ok (.invokevirtual 82, 3) := by decide +kernel
theorem dX5_takeNow_7 : decode cX5_takeNow 7 = .ok (.iconst 1, 1) := by decide +kernel
theorem dX5_takeNow_8 : decode cX5_takeNow 8 = .ok (.isub, 1) := by decide +kernel
theorem dX5_takeNow_9 : decode cX5_takeNow 9 = .ok (.invokevirtual 88, 3) := by decide +kernel
theorem dX5_takeNow_12 : decode cX5_takeNow 12 = .ok (.istore_n 2, 1) := by decide +kernel
theorem dX5_takeNow_13 : decode cX5_takeNow 13 = .ok (.aload_n 0, 1) := by decide +kernel
theorem dX5_takeNow_14 : decode cX5_takeNow 14 = .ok (.iload_n 1, 1) := by decide +kernel
theorem dX5_takeNow_15 : decode cX5_takeNow 15 = .ok (.iload_n 2, 1) := by decide +kernel
theorem dX5_takeNow_16 : decode cX5_takeNow 16 = .ok (.invokevirtual 94, 3) := by decide +kernel
theorem dX5_takeNow_19 : decode cX5_takeNow 19 = .ok (.aload_n 0, 1) := by decide +kernel
theorem dX5_takeNow_20 : decode cX5_takeNow 20 = .ok (.iload_n 2, 1) := by decide +kernel
theorem dX5_takeNow_21 : decode cX5_takeNow 21 = .ok (.iconst 4, 1) := by decide +kernel
theorem dX5_takeNow_22 : decode cX5_takeNow 22 = .ok (.iconst (-1), 1) := by decide +kernel
theorem dX5_takeNow_23 : decode cX5_takeNow 23 = .ok (.invokevirtual 67, 3) := by decide +kernel
theorem dX5_takeNow_26 : decode cX5_takeNow 26 = .ok (.aload_n 0, 1) := by decide +kernel
theorem dX5_takeNow_27 : decode cX5_takeNow 27 = .ok (.iload_n 2, 1) := by decide +kernel
theorem dX5_takeNow_28 : decode cX5_takeNow 28 = .ok (.iconst 5, 1) := by decide +kernel
theorem dX5_takeNow_29 : decode cX5_takeNow 29 = .ok (.iconst (-1), 1) := by decide +kernel
theorem dX5_takeNow_30 : decode cX5_takeNow 30 = .ok (.invokevirtual 67, 3) := by decide +kernel
theorem dX5_takeNow_33 : decode cX5_takeNow 33 = .ok (.aload_n 0, 1) := by decide +kernel
theorem dX5_takeNow_34 : decode cX5_takeNow 34 = .ok (.getfield 7, 3) := by decide +kernel
theorem dX5_takeNow_37 : decode cX5_takeNow 37 = .ok (.bipush 6, 2) := by decide +kernel
theorem dX5_takeNow_39 : decode cX5_takeNow 39 = .ok (.dup2, 1) := by decide +kernel
theorem dX5_takeNow_40 : decode cX5_takeNow 40 = .ok (.iaload, 1) := by decide +kernel
theorem dX5_takeNow_41 : decode cX5_takeNow 41 = .ok (.iconst 1, 1) := by decide +kernel
theorem dX5_takeNow_42 : decode cX5_takeNow 42 = .ok (.iadd, 1) := by decide +kernel
theorem dX5_takeNow_43 : decode cX5_takeNow 43 = .ok (.iastore, 1) := by decide +kernel
theorem dX5_takeNow_44 : decode cX5_takeNow 44 = .ok (.iload_n 2, 1) := by decide +kernel
theorem dX5_takeNow_45 : decode cX5_takeNow 45 = .ok (.ireturn, 1) := by decide +kernel
set_option maxRecDepth 20000 in
theorem ggX5_lookForFree_X5_isFree : GoodIn wsX5_lookForFree wsX5_isFree := goodIn_r _ [8, 9, 10, 11, 7, 12, 2, 13, 14, 15, 16, 17, 18, 19, 20, 21, 22, 23, 24, 25, 26, 27, 28, 29, 30] (by decide +kernel) (by decide +kernel)
set_option maxRecDepth 20000 in
theorem gX5_lookForFree_X5_isFree : GoodIn wsX5_lookForFree (wsV RX5 78 RX5 yX5_isFree wsX5_isFree) := goodIn_app (goodIn_of _ (by decide +kernel)) ggX5_lookForFree_X5_isFree
theorem dX5_lookForFree_0 : decode cX5_lookForFree 0 = .ok (.aload_n 0, 1) := by decide +kernel
theorem dX5_lookForFree_1 : decode cX5_lookForFree 1 = .ok (.iconst 0, 1) := by decide +kernel
theorem dX5_lookForFree_2 : decode cX5_lookForFree 2 = .ok (.putfield 97, 3) := by decide +kernel
theorem dX5_lookForFree_5 : decode cX5_lookForFree 5 = .ok (.iconst 0, 1) := by decide +kernel
theorem dX5_lookForFree_6 : decode cX5_lookForFree 6 = .ok (.istore_n 1, 1) := by decide +kernel
theorem dX5_lookForFree_7 : decode cX5_lookForFree 7 = .ok (.iload_n 1, 1) := by decide +kernel
theorem dX5_lookForFree_8 : decode cX5_lookForFree 8 = .ok (.aload_n 0, 1) := by decide +kernel
theorem dX5_lookForFree_9 : decode cX5_lookForFree 9 = .ok (.getfield 7, 3) := by decide +kernel
theorem dX5_lookForFree_12 : decode cX5_lookForFree 12 = .ok (.bipush 8, 2) := by decide +kernel
theorem dX5_lookForFree_14 : decode cX5_lookForFree 14 = .ok (.iaload, 1) := by decide +kernel
theorem dX5_lookForFree_15 : decode cX5_lookForFree 15 = .ok (.if_icmp .ge 37, 3) := by decide +kernel
theorem dX5_lookForFree_18 : decode cX5_lookForFree 18 = .ok (.aload_n 0, 1) := by decide +kernel
theorem dX5_lookForFree_19 : decode cX5_lookForFree 19 = .ok (.iload_n 1, 1) := by decide +kernel
theorem dX5_lookForFree_20 : decode cX5_lookForFree 20 = .ok (.invokevirtual 78, 3) := by decide +kernel
theorem dX5_lookForFree_23 : decode cX5_lookForFree 23 = .ok (.ifCond .eq 23, 3) := by decide +kernel
theorem dX5_lookForFree_26 : decode cX5_lookForFree 26 = .ok (.aload_n 0, 1) := by decide +kernel
theorem dX5_lookForFree_27 : decode cX5_lookForFree 27 = .ok (.getfield 23, 3) := by decide +kernel
theorem dX5_lookForFree_30 : decode cX5_lookForFree 30 = .ok (.aload_n 0, 1) := by decide +kernel
theorem dX5_lookForFree_31 : decode cX5_lookForFree 31 = .ok (.getfield 97, 3) := by decide +kernel
theorem dX5_lookForFree_34 : decode cX5_lookForFree 34 = .ok (.iload_n 1, 1) := by decide +kernel
theorem dX5_lookForFree_35 : decode cX5_lookForFree 35 = .ok (.iastore, 1) := by decide +kernel
theorem dX5_lookForFree_36 : decode cX5_lookForFree 36 = .ok (.aload_n 0, 1) := by decide +kernel
theorem dX5_lookForFree_37 : decode cX5_lookForFree 37 = .ok (.dup, 1) := by decide +kernel
theorem dX5_lookForFree_38 : decode cX5_lookForFree 38 = .ok (.getfield 97, 3) := by decide +kernel
theorem dX5_lookForFree_41 : decode cX5_lookForFree 41 = .ok (.iconst 1, 1) := by decide +kernel
theorem dX5_lookForFree_42 : decode cX5_lookForFree 42 = .ok (.iadd, 1) := by decide +kernel
theorem dX5_lookForFree_43 : decode cX5_lookForFree 43 = .ok (.putfield 97, 3) := by decide +kernel
theorem dX5_lookForFree_46 : decode cX5_lookForFree 46 = .ok (.iinc 1 1, 3) := by decide +kernel
theorem dX5_lookForFree_49 : decode cX5_lookForFree 49 = .ok (.goto (-42), 3) := by decide +kernel
theorem dX5_lookForFree_52 : decode cX5_lookForFree 52 = .ok (.return_, 1) := by decide +kernel
set_option maxRecDepth 20000 in
theorem ggX5_sumOf_X5_of : GoodIn wsX5_sumOf wsX5_of := goodIn_r _ [7, 8, 9, 10, 11, 12, 13, 14, 15, 16, 17, 18, 19, 20, 21, 22, 23, 24, 25, 26] (by decide +kernel) (by decide +kernel)
set_option maxRecDepth 20000 in
theorem gX5_sumOf_X5_of : GoodIn wsX5_sumOf (wsV RX5 57 RX5 yX5_of wsX5_of) := goodIn_app (goodIn_of _ (by decide +kernel)) ggX5_sumOf_X5_of
theorem dX5_sumOf_0 : decode cX5_sumOf 0 = .ok (.iconst 0, 1) := by decide +kernel
theorem dX5_sumOf_1 : decode cX5_sumOf 1 = .ok (.istore_n 2, 1) := by decide +kernel
theorem dX5_sumOf_2 : decode cX5_sumOf 2 = .ok (.iconst 0, 1) := by decide +kernel
theorem dX5_sumOf_3 : decode cX5_sumOf 3 = .ok (.istore_n 3, 1) := by decide +kernel
theorem dX5_sumOf_4 : decode cX5_sumOf 4 = .ok (.iload_n 3, 1) := by decide +kernel
theorem dX5_sumOf_5 : decode cX5_sumOf 5 = .ok (.aload_n 0, 1) := by decide +kernel
theorem dX5_sumOf_6 : decode cX5_sumOf 6 = .ok (.getfield 97, 3) := by decide +kernel
theorem dX5_sumOf_9 : decode cX5_sumOf 9 = .ok (.if_icmp .ge 36, 3) := by decide +kernel
theorem dX5_sumOf_12 : decode cX5_sumOf 12 = .ok (.iload_n 2, 1) := by decide +kernel
theorem dX5_sumOf_13 : decode cX5_sumOf 13 = .ok (.iload_n 1, 1) := by decide +kernel
theorem dX5_sumOf_14 : decode cX5_sumOf 14 = .ok (.iload_n 3, 1) := by decide +kernel
theorem dX5_sumOf_15 : decode cX5_sumOf 15 = .ok (.ishr, 1) := by decide +kernel
theorem dX5_sumOf_16 : decode cX5_sumOf 16 = .ok (.iconst 1, 1) := by decide +kernel
theorem dX5_sumOf_17 : decode cX5_sumOf 17 = .ok (.iand, 1) := by decide +kernel
theorem dX5_sumOf_18 : decode cX5_sumOf 18 = .ok (.iconst 1, 1) := by decide +kernel
theorem dX5_sumOf_19 : decode cX5_sumOf 19 = .ok (.if_icmp .ne 17, 3) := by decide +kernel
theorem dX5_sumOf_22 : decode cX5_sumOf 22 = .ok (.aload_n 0, 1) := by decide +kernel
theorem dX5_sumOf_23 : decode cX5_sumOf 23 = .ok (.aload_n 0, 1) := by decide +kernel
theorem dX5_sumOf_24 : decode cX5_sumOf 24 = .ok (.getfield 23, 3) := by decide +kernel
theorem dX5_sumOf_27 : decode cX5_sumOf 27 = .ok (.iload_n 3, 1) := by decide +kernel
theorem dX5_sumOf_28 : decode cX5_sumOf 28 = .ok (.iaload, 1) := by decide +kernel
theorem dX5_sumOf_29 : decode cX5_sumOf 29 = .ok (.iconst 0, 1) := by decide +kernel
theorem dX5_sumOf_30 : decode cX5_sumOf 30 = .ok (.invokevirtual 57, 3) := by decide +kernel
theorem dX5_sumOf_33 : decode cX5_sumOf 33 = .ok (.goto 4, 3) := by decide +kernel
theorem dX5_sumOf_36 : decode cX5_sumOf 36 = .ok (.iconst 0, 1) := by decide +kernel
theorem dX5_sumOf_37 : decode cX5_sumOf 37 = .ok (.iadd, 1) := by decide +kernel
theorem dX5_sumOf_38 : decode cX5_sumOf 38 = .ok (.istore_n 2, 1) := by decide +kernel
theorem dX5_sumOf_39 : decode cX5_sumOf 39 = .ok (.iinc 3 1, 3) := by decide +kernel
theorem dX5_sumOf_42 : decode cX5_sumOf 42 = .ok (.goto (-38), 3) := by decide +kernel
theorem dX5_sumOf_45 : decode cX5_sumOf 45 = .ok (.iload_n 2, 1) := by decide +kernel
theorem dX5_sumOf_46 : decode cX5_sumOf 46 = .ok (.ireturn, 1) := by decide +kernel
theorem dX5_nextSet_0 : decode cX5_nextSet 0 = .ok (.iload_n 0, 1) := by decide +kernel
theorem dX5_nextSet_1 : decode cX5_nextSet 1 = .ok (.iload_n 0, 1) := by decide +kernel
theorem dX5_nextSet_2 : decode cX5_nextSet 2 = .ok (.ineg, 1) := by decide +kernel
theorem dX5_nextSet_3 : decode cX5_nextSet 3 = .ok (.iand, 1) := by decide +kernel
theorem dX5_nextSet_4 : decode cX5_nextSet 4 = .ok (.istore_n 1, 1) := by decide +kernel
theorem dX5_nextSet_5 : decode cX5_nextSet 5 = .ok (.iload_n 0, 1) := by decide +kernel
theorem dX5_nextSet_6 : decode cX5_nextSet 6 = .ok (.iload_n 1, 1) := by decide +kernel
theorem dX5_nextSet_7 : decode cX5_nextSet 7 = .ok (.iadd, 1) := by decide +kernel
theorem dX5_nextSet_8 : decode cX5_nextSet 8 = .ok (.istore_n 2, 1) := by decide +kernel
theorem dX5_nextSet_9 : decode cX5_nextSet 9 = .ok (.iload_n 0, 1) := by decide +kernel
theorem dX5_nextSet_10 : decode cX5_nextSet 10 = .ok (.iload_n 2, 1) := by decide +kernel
theorem dX5_nextSet_11 : decode cX5_nextSet 11 = .ok (.ixor, 1) := by decide +kernel
theorem dX5_nextSet_12 : decode cX5_nextSet 12 = .ok (.iconst 2, 1) := by decide +kernel
theorem dX5_nextSet_13 : decode cX5_nextSet 13 = .ok (.ishr, 1) := by decide +kernel
theorem dX5_nextSet_14 : decode cX5_nextSet 14 = .ok (.iload_n 1, 1) := by decide +kernel
theorem dX5_nextSet_15 : decode cX5_nextSet 15 = .ok (.idiv, 1) := by decide +kernel
theorem dX5_nextSet_16 : decode cX5_nextSet 16 = .ok (.iload_n 2, 1) := by decide +kernel
theorem dX5_nextSet_17 : decode cX5_nextSet 17 = .ok (.ior, 1) := by decide +kernel
theorem dX5_nextSet_18 : decode cX5_nextSet 18 = .ok (.ireturn, 1) := by decide +kernel
theorem dX5_byNumbers_0 : decode cX5_byNumbers 0 = .ok (.iconst 0, 1) := by decide +kernel
theorem dX5_byNumbers_1 : decode cX5_byNumbers 1 = .ok (.istore_n 2, 1) := by decide +kernel
theorem dX5_byNumbers_2 : decode cX5_byNumbers 2 = .ok (.iconst 0, 1) := by decide +kernel
theorem dX5_byNumbers_3 : decode cX5_byNumbers 3 = .ok (.istore_n 3, 1) := by decide +kernel
theorem dX5_byNumbers_4 : decode cX5_byNumbers 4 = .ok (.iload_n 3, 1) := by decide +kernel
theorem dX5_byNumbers_5 : decode cX5_byNumbers 5 = .ok (.aload_n 0, 1) := by decide +kernel
theorem dX5_byNumbers_6 : decode cX5_byNumbers 6 = .ok (.getfield 97, 3) := by decide +kernel
theorem dX5_byNumbers_9 : decode cX5_byNumbers 9 = .ok (.if_icmp .ge 24, 3) := by decide +kernel
theorem dX5_byNumbers_12 : decode cX5_byNumbers 12 = .ok (.iload_n 2, 1) := by decide +kernel
theorem dX5_byNumbers_13 : decode cX5_byNumbers 13 = .ok (.iload_n 1, 1) := by decide +kernel
theorem dX5_byNumbers_14 : decode cX5_byNumbers 14 = .ok (.iload_n 3, 1) := by decide +kernel
theorem dX5_byNumbers_15 : decode cX5_byNumbers 15 = .ok (.ishr, 1) := by decide +kernel
theorem dX5_byNumbers_16 : decode cX5_byNumbers 16 = .ok (.iconst 1, 1) := by decide +kernel
theorem dX5_byNumbers_17 : decode cX5_byNumbers 17 = .ok (.iand, 1) := by decide +kernel
theorem dX5_byNumbers_18 : decode cX5_byNumbers 18 = .ok (.aload_n 0, 1) := by decide +kernel
theorem dX5_byNumbers_19 : decode cX5_byNumbers 19 = .ok (.getfield 23, 3) := by decide +kernel
theorem dX5_byNumbers_22 : decode cX5_byNumbers 22 = .ok (.iload_n 3, 1) := by decide +kernel
theorem dX5_byNumbers_23 : decode cX5_byNumbers 23 = .ok (.iaload, 1) := by decide +kernel
theorem dX5_byNumbers_24 : decode cX5_byNumbers 24 = .ok (.ishl, 1) := by decide +kernel
theorem dX5_byNumbers_25 : decode cX5_byNumbers 25 = .ok (.ior, 1) := by decide +kernel
theorem dX5_byNumbers_26 : decode cX5_byNumbers 26 = .ok (.istore_n 2, 1) := by decide +kernel
theorem dX5_byNumbers_27 : decode cX5_byNumbers 27 = .ok (.iinc 3 1, 3) := by decide +kernel
theorem dX5_byNumbers_30 : decode cX5_byNumbers 30 = .ok (.goto (-26), 3) := by decide +kernel
theorem dX5_byNumbers_33 : decode cX5_byNumbers 33 = .ok (.iload_n 2, 1) := by decide +kernel
theorem dX5_byNumbers_34 : decode cX5_byNumbers 34 = .ok (.ireturn, 1) := by decide +kernel
set_option maxRecDepth 20000 in
theorem ggX5_fewestFor_X5_lookForFree : GoodIn wsX5_fewestFor wsX5_lookForFree := goodIn_r _ [6, 1, 7, 8, 9, 10, 11, 5, 12, 13, 14, 15, 16, 28, 29, 30, 31, 32, 33, 34, 35, 36, 37, 38, 39, 40, 41, 42, 43, 44, 45] (by decide +kernel) (by decide +kernel)
set_option maxRecDepth 20000 in
theorem gX5_fewestFor_X5_lookForFree : GoodIn wsX5_fewestFor (wsV RX5 100 RX5 yX5_lookForFree wsX5_lookForFree) := goodIn_app (goodIn_of _ (by decide +kernel)) ggX5_fewestFor_X5_lookForFree
set_option maxRecDepth 20000 in
theorem ggX5_fewestFor_X5_sumOf : GoodIn wsX5_fewestFor wsX5_sumOf := goodIn_r _ [20, 1, 8, 13, 14, 15, 5, 16, 7, 28, 29, 30, 31, 32, 33, 34, 35, 36, 37, 38, 39, 40, 41, 42, 43, 44, 45] (by decide +kernel) (by decide +kernel)
set_option maxRecDepth 20000 in
theorem gX5_fewestFor_X5_sumOf : GoodIn wsX5_fewestFor (wsV RX5 103 RX5 yX5_sumOf wsX5_sumOf) := goodIn_app (goodIn_of _ (by decide +kernel)) ggX5_fewestFor_X5_sumOf
set_option maxRecDepth 20000 in
theorem ggX5_fewestFor_X5_byNumbers : GoodIn wsX5_fewestFor wsX5_byNumbers := goodIn_r _ [24, 1, 8, 28, 29, 30, 31, 32, 33, 34, 35, 36, 37, 38, 39, 40, 41, 42, 43, 44, 45] (by decide +kernel) (by decide +kernel)
set_option maxRecDepth 20000 in
theorem gX5_fewestFor_X5_byNumbers : GoodIn wsX5_fewestFor (wsV RX5 106 RX5 yX5_byNumbers wsX5_byNumbers) := goodIn_app (goodIn_of _ (by decide +kernel)) ggX5_fewestFor_X5_byNumbers
set_option maxRecDepth 20000 in
theorem ggX5_fewestFor_X5_nextSet : GoodIn wsX5_fewestFor wsX5_nextSet := goodIn_r _ [27] (by decide +kernel) (by decide +kernel)
set_option maxRecDepth 20000 in
theorem gX5_fewestFor_X5_nextSet : GoodIn wsX5_fewestFor (va_wsS RX5 109 yX5_nextSet wsX5_nextSet) := goodIn_app (goodIn_of _ (by decide +kernel)) ggX5_fewestFor_X5_nextSet
theorem dX5_fewestFor_0 : decode cX5_fewestFor 0 = .ok (.aload_n 0, 1) := by decide +kernel
theorem dX5_fewestFor_1 : decode cX5_fewestFor 1 = .ok (.invokevirtual 100, 3) := by decide +kernel
theorem dX5_fewestFor_4 : decode cX5_fewestFor 4 = .ok (.iconst 1, 1) := by decide +kernel
theorem dX5_fewestFor_5 : decode cX5_fewestFor 5 = .ok (.istore_n 2, 1) := by decide +kernel
theorem dX5_fewestFor_6 : decode cX5_fewestFor 6 = .ok (.iload_n 2, 1) := by decide +kernel
theorem dX5_fewestFor_7 : decode cX5_fewestFor 7 = .ok (.bipush 6, 2) := by decide +kernel
theorem dX5_fewestFor_9 : decode cX5_fewestFor 9 = .ok (.if_icmp .gt 56, 3) := by decide +kernel
theorem dX5_fewestFor_12 : decode cX5_fewestFor 12 = .ok (.iload_n 2, 1) := by decide +kernel
theorem dX5_fewestFor_13 : decode cX5_fewestFor 13 = .ok (.aload_n 0, 1) := by decide +kernel
theorem dX5_fewestFor_14 : decode cX5_fewestFor 14 = .ok (.getfield 97, 3) := by decide +kernel
theorem dX5_fewestFor_17 : decode cX5_fewestFor 17 = .ok (.if_icmp .gt 48, 3) := by decide +kernel
theorem dX5_fewestFor_20 : decode cX5_fewestFor 20 = .ok (.iconst 1, 1) := by decide +kernel
theorem dX5_fewestFor_21 : decode cX5_fewestFor 21 = .ok (.iload_n 2, 1) := by decide +kernel
theorem dX5_fewestFor_22 : decode cX5_fewestFor 22 = .ok (.ishl, 1) := by decide +kernel
theorem dX5_fewestFor_23 : decode cX5_fewestFor 23 = .ok (.iconst 1, 1) := by decide +kernel
theorem dX5_fewestFor_24 : decode cX5_fewestFor 24 = .ok (.isub, 1) := by decide +kernel
theorem dX5_fewestFor_25 : decode cX5_fewestFor 25 = .ok (.istore_n 3, 1) := by decide +kernel
theorem dX5_fewestFor_26 : decode cX5_fewestFor 26 = .ok (.iload_n 3, 1) := by decide +kernel
theorem dX5_fewestFor_27 : decode cX5_fewestFor 27 = .ok (.iconst 1, 1) := by decide +kernel
theorem dX5_fewestFor_28 : decode cX5_fewestFor 28 = .ok (.aload_n 0, 1) := by decide +kernel
theorem dX5_fewestFor_29 : decode cX5_fewestFor 29 = .ok (.getfield 97, 3) := by decide +kernel
theorem dX5_fewestFor_32 : decode cX5_fewestFor 32 = .ok (.ishl, 1) := by decide +kernel
theorem dX5_fewestFor_33 : decode cX5_fewestFor 33 = .ok (.if_icmp .ge 26, 3) := by decide +kernel
theorem dX5_fewestFor_36 : decode cX5_fewestFor 36 = .ok (.aload_n 0, 1) := by decide +kernel
theorem dX5_fewestFor_37 : decode cX5_fewestFor 37 = .ok (.iload_n 3, 1) := by decide +kernel
theorem dX5_fewestFor_38 : decode cX5_fewestFor 38 = .ok (.invokevirtual 103, 3) := by decide +kernel
theorem dX5_fewestFor_41 : decode cX5_fewestFor 41 = .ok (.iload_n 1, 1) := by decide +kernel
theorem dX5_fewestFor_42 : decode cX5_fewestFor 42 = .ok (.if_icmp .ne 9, 3) := by decide +kernel
theorem dX5_fewestFor_45 : decode cX5_fewestFor 45 = .ok (.aload_n 0, 1) := by decide +kernel
theorem dX5_fewestFor_46 : decode cX5_fewestFor 46 = .ok (.iload_n 3, 1) := by decide +kernel
theorem dX5_fewestFor_47 : decode cX5_fewestFor 47 = .ok (.invokevirtual 106, 3) := by decide +kernel
theorem dX5_fewestFor_50 : decode cX5_fewestFor 50 = .ok (.ireturn, 1) := by decide +kernel
theorem dX5_fewestFor_51 : decode cX5_fewestFor 51 = .ok (.iload_n 3, 1) := by decide +kernel
theorem dX5_fewestFor_52 : decode cX5_fewestFor 52 = .ok (.invokestatic 109, 3) := by decide +kernel
theorem dX5_fewestFor_55 : decode cX5_fewestFor 55 = .ok (.istore_n 3, 1) := by decide +kernel
theorem dX5_fewestFor_56 : decode cX5_fewestFor 56 = .ok (.goto (-30), 3) := by decide +kernel
theorem dX5_fewestFor_59 : decode cX5_fewestFor 59 = .ok (.iinc 2 1, 3) := by decide +kernel
theorem dX5_fewestFor_62 : decode cX5_fewestFor 62 = .ok (.goto (-56), 3) := by decide +kernel
theorem dX5_fewestFor_65 : decode cX5_fewestFor 65 = .ok (.iconst 0, 1) := by decide +kernel
theorem dX5_fewestFor_66 : decode cX5_fewestFor 66 = .ok (.ireturn, 1) := by decide +kernel
theorem dX5_ones_0 : decode cX5_ones 0 = .ok (.iconst 0, 1) := by decide +kernel
theorem dX5_ones_1 : decode cX5_ones 1 = .ok (.istore_n 1, 1) := by decide +kernel
theorem dX5_ones_2 : decode cX5_ones 2 = .ok (.iload_n 0, 1) := by decide +kernel
theorem dX5_ones_3 : decode cX5_ones 3 = .ok (.istore_n 2, 1) := by decide +kernel
theorem dX5_ones_4 : decode cX5_ones 4 = .ok (.iload_n 2, 1) := by decide +kernel
theorem dX5_ones_5 : decode cX5_ones 5 = .ok (.ifCond .le 16, 3) := by decide +kernel
theorem dX5_ones_8 : decode cX5_ones 8 = .ok (.iload_n 1, 1) := by decide +kernel
theorem dX5_ones_9 : decode cX5_ones 9 = .ok (.iload_n 2, 1) := by decide +kernel
theorem dX5_ones_10 : decode cX5_ones 10 = .ok (.iconst 1, 1) := by decide +kernel
theorem dX5_ones_11 : decode cX5_ones 11 = .ok (.iand, 1) := by decide +kernel
theorem dX5_ones_12 : decode cX5_ones 12 = .ok (.iadd, 1) := by decide +kernel
theorem dX5_ones_13 : decode cX5_ones 13 = .ok (.istore_n 1, 1) := by decide +kernel
theorem dX5_ones_14 : decode cX5_ones 14 = .ok (.iload_n 2, 1) := by decide +kernel
theorem dX5_ones_15 : decode cX5_ones 15 = .ok (.iconst 1, 1) := by decide +kernel
theorem dX5_ones_16 : decode cX5_ones 16 = .ok (.ishr, 1) := by decide +kernel
theorem dX5_ones_17 : decode cX5_ones 17 = .ok (.istore_n 2, 1) := by decide +kernel
theorem dX5_ones_18 : decode cX5_ones 18 = .ok (.goto (-14), 3) := by decide +kernel
theorem dX5_ones_21 : decode cX5_ones 21 = .ok (.iload_n 1, 1) := by decide +kernel
theorem dX5_ones_22 : decode cX5_ones 22 = .ok (.ireturn, 1) := by decide +kernel
set_option maxRecDepth 20000 in
theorem ggX5_block_X5_in : GoodIn wsX5_block wsX5_in := goodIn_r _ [7] (by decide +kernel) (by decide +kernel)
set_option maxRecDepth 20000 in
theorem gX5_block_X5_in : GoodIn wsX5_block (va_wsS RX5 42 yX5_in wsX5_in) := goodIn_app (goodIn_of _ (by decide +kernel)) ggX5_block_X5_in
set_option maxRecDepth 20000 in
theorem ggX5_block_X5_fails : GoodIn wsX5_block wsX5_fails := goodIn_r _ [11, 1, 26, 27, 28, 29, 30, 31, 32, 33, 34, 35, 36, 37, 38, 39, 40, 41, 42, 43] (by decide +kernel) (by decide +kernel)
set_option maxRecDepth 20000 in
theorem gX5_block_X5_fails : GoodIn wsX5_block (wsV RX5 50 RX5 yX5_fails wsX5_fails) := goodIn_app (goodIn_of _ (by decide +kernel)) ggX5_block_X5_fails
set_option maxRecDepth 20000 in
theorem ggX5_block_X5_save : GoodIn wsX5_block wsX5_save := goodIn_r _ [15, 16, 17, 3, 26, 27, 28, 29, 30, 31, 32, 33, 34, 35, 36, 37, 38, 39, 40, 41, 42, 43] (by decide +kernel) (by decide +kernel)
