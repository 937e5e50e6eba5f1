theorem dX3_takeTopOff_20 : decode cX3_takeTopOff 20 = .ok (.iconst (-1), 1) := by decide +kernel
theorem dX3_takeTopOff_21 : decode cX3_takeTopOff 21 = .ok (.ireturn, 1) := by decide +kernel
theorem dX3_takeTopOff_22 : decode cX3_takeTopOff 22 = .ok (.aload_n 0, 1) := by decide +kernel
theorem dX3_takeTopOff_23 : decode cX3_takeTopOff 23 = .ok (.iload_n 3, 1) := by decide +kernel
theorem dX3_takeTopOff_24 : decode cX3_takeTopOff 24 = .ok (.aload_n 0, 1) := by decide +kernel
theorem dX3_takeTopOff_25 : decode cX3_takeTopOff 25 = .ok (.iload_n 1, 1) := by decide +kernel
theorem dX3_takeTopOff_26 : decode cX3_takeTopOff 26 = .ok (.iload_n 2, 1) := by decide +kernel
theorem dX3_takeTopOff_27 : decode cX3_takeTopOff 27 = .ok (.iconst 2, 1) := by decide +kernel
theorem dX3_takeTopOff_28 : decode cX3_takeTopOff 28 = .ok (.isub, 1) := by decide +kernel
theorem dX3_takeTopOff_29 : decode cX3_takeTopOff 29 = .ok (.invokevirtual 116, 3) := by decide +kernel
theorem dX3_takeTopOff_32 : decode cX3_takeTopOff 32 = .ok (.invokevirtual 119, 3) := by decide +kernel
theorem dX3_takeTopOff_35 : decode cX3_takeTopOff 35 = .ok (.aload_n 0, 1) := by decide +kernel
theorem dX3_takeTopOff_36 : decode cX3_takeTopOff 36 = .ok (.getfield 24, 3) := by decide +kernel
theorem dX3_takeTopOff_39 : decode cX3_takeTopOff 39 = .ok (.iload_n 3, 1) := by decide +kernel
theorem dX3_takeTopOff_40 : decode cX3_takeTopOff 40 = .ok (.iconst (-1), 1) := by decide +kernel
theorem dX3_takeTopOff_41 : decode cX3_takeTopOff 41 = .ok (.iastore, 1) := by decide +kernel
theorem dX3_takeTopOff_42 : decode cX3_takeTopOff 42 = .ok (.aload_n 0, 1) := by decide +kernel
theorem dX3_takeTopOff_43 : decode cX3_takeTopOff 43 = .ok (.getfield 27, 3) := by decide +kernel
theorem dX3_takeTopOff_46 : decode cX3_takeTopOff 46 = .ok (.iload_n 3, 1) := by decide +kernel
theorem dX3_takeTopOff_47 : decode cX3_takeTopOff 47 = .ok (.iconst (-1), 1) := by decide +kernel
theorem dX3_takeTopOff_48 : decode cX3_takeTopOff 48 = .ok (.iastore, 1) := by decide +kernel
theorem dX3_takeTopOff_49 : decode cX3_takeTopOff 49 = .ok (.aload_n 0, 1) := by decide +kernel
theorem dX3_takeTopOff_50 : decode cX3_takeTopOff 50 = .ok (.dup, 1) := by decide +kernel
theorem dX3_takeTopOff_51 : decode cX3_takeTopOff 51 = .ok (.getfield 60, 3) := by decide +kernel
theorem dX3_takeTopOff_54 : decode cX3_takeTopOff 54 = .ok (.iconst 1, 1) := by decide +kernel
theorem dX3_takeTopOff_55 : decode cX3_takeTopOff 55 = .ok (.iadd, 1) := by decide +kernel
theorem dX3_takeTopOff_56 : decode cX3_takeTopOff 56 = .ok (.putfield 60, 3) := by decide +kernel
theorem dX3_takeTopOff_59 : decode cX3_takeTopOff 59 = .ok (.iload_n 3, 1) := by decide +kernel
theorem dX3_takeTopOff_60 : decode cX3_takeTopOff 60 = .ok (.ireturn, 1) := by decide +kernel
set_option maxRecDepth 20000 in
theorem ggX3_slide_X3_warm : GoodIn wsX3_slide wsX3_warm := goodIn_r _ [7, 8, 9, 10, 11, 12, 13, 14, 15, 16, 17, 18, 19, 20, 21, 22, 23, 24, 25] (by decide +kernel) (by decide +kernel)
set_option maxRecDepth 20000 in
theorem gX3_slide_X3_warm : GoodIn wsX3_slide (wsV RX3 122 RX3 yX3_warm wsX3_warm) := goodIn_app (goodIn_of _ (by decide +kernel)) ggX3_slide_X3_warm
theorem dX3_slide_0 : decode cX3_slide 0 = .ok (.aload_n 0, 1) := by decide +kernel
theorem dX3_slide_1 : decode cX3_slide 1 = .ok (.iload_n 1, 1) := by decide +kernel
theorem dX3_slide_2 : decode cX3_slide 2 = .ok (.aload_n 0, 1) := by decide +kernel
theorem dX3_slide_3 : decode cX3_slide 3 = .ok (.getfield 41, 3) := by decide +kernel
theorem dX3_slide_6 : decode cX3_slide 6 = .ok (.iconst 3, 1) := by decide +kernel
theorem dX3_slide_7 : decode cX3_slide 7 = .ok (.iaload, 1) := by decide +kernel
theorem dX3_slide_8 : decode cX3_slide 8 = .ok (.invokevirtual 122, 3) := by decide +kernel
theorem dX3_slide_11 : decode cX3_slide 11 = .ok (.iload_n 2, 1) := by decide +kernel
theorem dX3_slide_12 : decode cX3_slide 12 = .ok (.iconst (-1), 1) := by decide +kernel
theorem dX3_slide_13 : decode cX3_slide 13 = .ok (.if_icmp .eq 33, 3) := by decide +kernel
theorem dX3_slide_16 : decode cX3_slide 16 = .ok (.aload_n 0, 1) := by decide +kernel
theorem dX3_slide_17 : decode cX3_slide 17 = .ok (.getfield 18, 3) := by decide +kernel
theorem dX3_slide_20 : decode cX3_slide 20 = .ok (.iload_n 1, 1) := by decide +kernel
theorem dX3_slide_21 : decode cX3_slide 21 = .ok (.dup2, 1) := by decide +kernel
theorem dX3_slide_22 : decode cX3_slide 22 = .ok (.iaload, 1) := by decide +kernel
theorem dX3_slide_23 : decode cX3_slide 23 = .ok (.aload_n 0, 1) := by decide +kernel
theorem dX3_slide_24 : decode cX3_slide 24 = .ok (.getfield 41, 3) := by decide +kernel
theorem dX3_slide_27 : decode cX3_slide 27 = .ok (.iconst 2, 1) := by decide +kernel
theorem dX3_slide_28 : decode cX3_slide 28 = .ok (.iaload, 1) := by decide +kernel
theorem dX3_slide_29 : decode cX3_slide 29 = .ok (.iadd, 1) := by decide +kernel
theorem dX3_slide_30 : decode cX3_slide 30 = .ok (.iastore, 1) := by decide +kernel
theorem dX3_slide_31 : decode cX3_slide 31 = .ok (.aload_n 0, 1) := by decide +kernel
theorem dX3_slide_32 : decode cX3_slide 32 = .ok (.getfield 18, 3) := by decide +kernel
theorem dX3_slide_35 : decode cX3_slide 35 = .ok (.iload_n 2, 1) := by decide +kernel
theorem dX3_slide_36 : decode cX3_slide 36 = .ok (.dup2, 1) := by decide +kernel
theorem dX3_slide_37 : decode cX3_slide 37 = .ok (.iaload, 1) := by decide +kernel
theorem dX3_slide_38 : decode cX3_slide 38 = .ok (.aload_n 0, 1) := by decide +kernel
theorem dX3_slide_39 : decode cX3_slide 39 = .ok (.getfield 41, 3) := by decide +kernel
theorem dX3_slide_42 : decode cX3_slide 42 = .ok (.iconst 2, 1) := by decide +kernel
theorem dX3_slide_43 : decode cX3_slide 43 = .ok (.iaload, 1) := by decide +kernel
theorem dX3_slide_44 : decode cX3_slide 44 = .ok (.iadd, 1) := by decide +kernel
theorem dX3_slide_45 : decode cX3_slide 45 = .ok (.iastore, 1) := by decide +kernel
theorem dX3_slide_46 : decode cX3_slide 46 = .ok (.return_, 1) := by decide +kernel
theorem dX3_blockAt_0 : decode cX3_blockAt 0 = .ok (.iconst 0, 1) := by decide +kernel
theorem dX3_blockAt_1 : decode cX3_blockAt 1 = .ok (.istore_n 3, 1) := by decide +kernel
theorem dX3_blockAt_2 : decode cX3_blockAt 2 = .ok (.iload_n 3, 1) := by decide +kernel
theorem dX3_blockAt_3 : decode cX3_blockAt 3 = .ok (.aload_n 0, 1) := by decide +kernel
theorem dX3_blockAt_4 : decode cX3_blockAt 4 = .ok (.getfield 50, 3) := by decide +kernel
theorem dX3_blockAt_7 : decode cX3_blockAt 7 = .ok (.if_icmp .ge 31, 3) := by decide +kernel
theorem dX3_blockAt_10 : decode cX3_blockAt 10 = .ok (.aload_n 0, 1) := by decide +kernel
theorem dX3_blockAt_11 : decode cX3_blockAt 11 = .ok (.getfield 24, 3) := by decide +kernel
theorem dX3_blockAt_14 : decode cX3_blockAt 14 = .ok (.iload_n 3, 1) := by decide +kernel
theorem dX3_blockAt_15 : decode cX3_blockAt 15 = .ok (.iaload, 1) := by decide +kernel
theorem dX3_blockAt_16 : decode cX3_blockAt 16 = .ok (.iload_n 1, 1) := by decide +kernel
theorem dX3_blockAt_17 : decode cX3_blockAt 17 = .ok (.if_icmp .ne 15, 3) := by decide +kernel
theorem dX3_blockAt_20 : decode cX3_blockAt 20 = .ok (.aload_n 0, 1) := by decide +kernel
theorem dX3_blockAt_21 : decode cX3_blockAt 21 = .ok (.getfield 27, 3) := by decide +kernel
theorem dX3_blockAt_24 : decode cX3_blockAt 24 = .ok (.iload_n 3, 1) := by decide +kernel
theorem dX3_blockAt_25 : decode cX3_blockAt 25 = .ok (.iaload, 1) := by decide +kernel
theorem dX3_blockAt_26 : decode cX3_blockAt 26 = .ok (.iload_n 2, 1) := by decide +kernel
theorem dX3_blockAt_27 : decode cX3_blockAt 27 = .ok (.if_icmp .ne 5, 3) := by decide +kernel
theorem dX3_blockAt_30 : decode cX3_blockAt 30 = .ok (.iload_n 3, 1) := by decide +kernel
theorem dX3_blockAt_31 : decode cX3_blockAt 31 = .ok (.ireturn, 1) := by decide +kernel
theorem dX3_blockAt_32 : decode cX3_blockAt 32 = .ok (.iinc 3 1, 3) := by decide +kernel
theorem dX3_blockAt_35 : decode cX3_blockAt 35 = .ok (.goto (-33), 3) := by decide +kernel
theorem dX3_blockAt_38 : decode cX3_blockAt 38 = .ok (.iconst (-1), 1) := by decide +kernel
theorem dX3_blockAt_39 : decode cX3_blockAt 39 = .ok (.ireturn, 1) := by decide +kernel
theorem dX3_blocksIn_0 : decode cX3_blocksIn 0 = .ok (.iconst 0, 1) := by decide +kernel
theorem dX3_blocksIn_1 : decode cX3_blocksIn 1 = .ok (.istore_n 2, 1) := by decide +kernel
theorem dX3_blocksIn_2 : decode cX3_blocksIn 2 = .ok (.iconst 0, 1) := by decide +kernel
theorem dX3_blocksIn_3 : decode cX3_blocksIn 3 = .ok (.istore_n 3, 1) := by decide +kernel
theorem dX3_blocksIn_4 : decode cX3_blocksIn 4 = .ok (.iload_n 3, 1) := by decide +kernel
theorem dX3_blocksIn_5 : decode cX3_blocksIn 5 = .ok (.aload_n 0, 1) := by decide +kernel
theorem dX3_blocksIn_6 : decode cX3_blocksIn 6 = .ok (.getfield 50, 3) := by decide +kernel
theorem dX3_blocksIn_9 : decode cX3_blocksIn 9 = .ok (.if_icmp .ge 25, 3) := by decide +kernel
theorem dX3_blocksIn_12 : decode cX3_blocksIn 12 = .ok (.aload_n 0, 1) := by decide +kernel
theorem dX3_blocksIn_13 : decode cX3_blocksIn 13 = .ok (.getfield 24, 3) := by decide +kernel
theorem dX3_blocksIn_16 : decode cX3_blocksIn 16 = .ok (.iload_n 3, 1) := by decide +kernel
theorem dX3_blocksIn_17 : decode cX3_blocksIn 17 = .ok (.iaload, 1) := by decide +kernel
theorem dX3_blocksIn_18 : decode cX3_blocksIn 18 = .ok (.iload_n 1, 1) := by decide +kernel
theorem dX3_blocksIn_19 : decode cX3_blocksIn 19 = .ok (.if_icmp .ne 9, 3) := by decide +kernel
theorem dX3_blocksIn_22 : decode cX3_blocksIn 22 = .ok (.iload_n 2, 1) := by decide +kernel
theorem dX3_blocksIn_23 : decode cX3_blocksIn 23 = .ok (.iconst 1, 1) := by decide +kernel
theorem dX3_blocksIn_24 : decode cX3_blocksIn 24 = .ok (.iload_n 3, 1) := by decide +kernel
theorem dX3_blocksIn_25 : decode cX3_blocksIn 25 = .ok (.ishl, 1) := by decide +kernel
theorem dX3_blocksIn_26 : decode cX3_blocksIn 26 = .ok (.ior, 1) := by decide +kernel
theorem dX3_blocksIn_27 : decode cX3_blocksIn 27 = .ok (.istore_n 2, 1) := by decide +kernel
theorem dX3_blocksIn_28 : decode cX3_blocksIn 28 = .ok (.iinc 3 1, 3) := by decide +kernel
theorem dX3_blocksIn_31 : decode cX3_blocksIn 31 = .ok (.goto (-27), 3) := by decide +kernel
theorem dX3_blocksIn_34 : decode cX3_blocksIn 34 = .ok (.iload_n 2, 1) := by decide +kernel
theorem dX3_blocksIn_35 : decode cX3_blocksIn 35 = .ok (.ireturn, 1) := by decide +kernel
set_option maxRecDepth 20000 in
theorem ggX3_blocksOfGrade_X3_gradeOf : GoodIn wsX3_blocksOfGrade wsX3_gradeOf := goodIn_r _ [6, 7, 8, 9, 5, 10, 11, 12, 13, 14, 15, 16, 17, 18, 19, 20, 21, 22, 23, 24, 25, 26, 27, 28, 29, 30, 31, 32, 33] (by decide +kernel) (by decide +kernel)
set_option maxRecDepth 20000 in
theorem gX3_blocksOfGrade_X3_gradeOf : GoodIn wsX3_blocksOfGrade (wsV RX3 103 RX3 yX3_gradeOf wsX3_gradeOf) := goodIn_app (goodIn_of _ (by decide +kernel)) ggX3_blocksOfGrade_X3_gradeOf
theorem dX3_blocksOfGrade_0 : decode cX3_blocksOfGrade 0 = .ok (.iconst 0, 1) := by decide +kernel
theorem dX3_blocksOfGrade_1 : decode cX3_blocksOfGrade 1 = .ok (.istore_n 2, 1) := by decide +kernel
theorem dX3_blocksOfGrade_2 : decode cX3_blocksOfGrade 2 = .ok (.iconst 0, 1) := by decide +kernel
theorem dX3_blocksOfGrade_3 : decode cX3_blocksOfGrade 3 = .ok (.istore_n 3, 1) := by decide +kernel
theorem dX3_blocksOfGrade_4 : decode cX3_blocksOfGrade 4 = .ok (.iload_n 3, 1) := by decide +kernel
theorem dX3_blocksOfGrade_5 : decode cX3_blocksOfGrade 5 = .ok (.aload_n 0, 1) := by decide +kernel
theorem dX3_blocksOfGrade_6 : decode cX3_blocksOfGrade 6 = .ok (.getfield 50, 3) := by decide +kernel
theorem dX3_blocksOfGrade_9 : decode cX3_blocksOfGrade 9 = .ok (.if_icmp .ge 24, 3) := by decide +kernel
theorem dX3_blocksOfGrade_12 : decode cX3_blocksOfGrade 12 = .ok (.aload_n 0, 1) := by decide +kernel
theorem dX3_blocksOfGrade_13 : decode cX3_blocksOfGrade 13 = .ok (.iload_n 3, 1) := by decide +kernel
theorem dX3_blocksOfGrade_14 : decode cX3_blocksOfGrade 14 = .ok (.invokevirtual 103, 3) := by decide +kernel
theorem dX3_blocksOfGrade_17 : decode cX3_blocksOfGrade 17 = .ok (.iload_n 1, 1) := by decide +kernel
theorem dX3_blocksOfGrade_18 : decode cX3_blocksOfGrade 18 = .ok (.if_icmp .ne 9, 3) := by decide +kernel
theorem dX3_blocksOfGrade_21 : decode cX3_blocksOfGrade 21 = .ok (.iload_n 2, 1) := by decide +kernel
theorem dX3_blocksOfGrade_22 : decode cX3_blocksOfGrade 22 = .ok (.iconst 1, 1) := by decide +kernel
theorem dX3_blocksOfGrade_23 : decode cX3_blocksOfGrade 23 = .ok (.iload_n 3, 1) := by decide +kernel
theorem dX3_blocksOfGrade_24 : decode cX3_blocksOfGrade 24 = .ok (.ishl, 1) := by decide +kernel
theorem dX3_blocksOfGrade_25 : decode cX3_blocksOfGrade 25 = .ok (.ior, 1) := by decide +kernel
theorem dX3_blocksOfGrade_26 : decode cX3_blocksOfGrade 26 = .ok (.istore_n 2, 1) := by decide +kernel
theorem dX3_blocksOfGrade_27 : decode cX3_blocksOfGrade 27 = .ok (.iinc 3 1, 3) := by decide +kernel
theorem dX3_blocksOfGrade_30 : decode cX3_blocksOfGrade 30 = .ok (.goto (-26), 3) := by decide +kernel
theorem dX3_blocksOfGrade_33 : decode cX3_blocksOfGrade 33 = .ok (.iload_n 2, 1) := by decide +kernel
theorem dX3_blocksOfGrade_34 : decode cX3_blocksOfGrade 34 = .ok (.ireturn, 1) := by decide +kernel
set_option maxRecDepth 20000 in
theorem ggX3_heightOf_X3_blocksIn : GoodIn wsX3_heightOf wsX3_blocksIn := goodIn_r _ [5, 6, 7, 15, 16, 17, 18, 19, 20, 21, 22, 23, 24, 25, 26, 27] (by decide +kernel) (by decide +kernel)
set_option maxRecDepth 20000 in
theorem gX3_heightOf_X3_blocksIn : GoodIn wsX3_heightOf (wsV RX3 125 RX3 yX3_blocksIn wsX3_blocksIn) := goodIn_app (goodIn_of _ (by decide +kernel)) ggX3_heightOf_X3_blocksIn
set_option maxRecDepth 20000 in
theorem ggX3_heightOf_J6_bitCount_0f7a4 : GoodIn wsX3_heightOf wsJ6_bitCount_0f7a4 := goodIn_r _ [11, 12, 13, 14] (by decide +kernel) (by decide +kernel)
set_option maxRecDepth 20000 in
theorem gX3_heightOf_J6_bitCount_0f7a4 : GoodIn wsX3_heightOf (va_wsS RX3 128 yJ6_bitCount_0f7a4 wsJ6_bitCount_0f7a4) := goodIn_app (goodIn_of _ (by decide +kernel)) ggX3_heightOf_J6_bitCount_0f7a4
theorem dX3_heightOf_0 : decode cX3_heightOf 0 = .ok (.aload_n 0, 1) := by decide +kernel
theorem dX3_heightOf_1 : decode cX3_heightOf 1 = .ok (.iload_n 1, 1) := by decide +kernel
theorem dX3_heightOf_2 : decode cX3_heightOf 2 = .ok (.invokevirtual 125, 3) := by decide +kernel
theorem dX3_heightOf_5 : decode cX3_heightOf 5 = .ok (.invokestatic 128, 3) := by decide +kernel
theorem dX3_heightOf_8 : decode cX3_heightOf 8 = .ok (.ireturn, 1) := by decide +kernel
theorem dX3_nominalOfSet_0 : decode cX3_nominalOfSet 0 = .ok (.iconst 0, 1) := by decide +kernel
theorem dX3_nominalOfSet_1 : decode cX3_nominalOfSet 1 = .ok (.istore_n 2, 1) := by decide +kernel
theorem dX3_nominalOfSet_2 : decode cX3_nominalOfSet 2 = .ok (.iconst 0, 1) := by decide +kernel
theorem dX3_nominalOfSet_3 : decode cX3_nominalOfSet 3 = .ok (.istore_n 3, 1) := by decide +kernel
theorem dX3_nominalOfSet_4 : decode cX3_nominalOfSet 4 = .ok (.iload_n 3, 1) := by decide +kernel
theorem dX3_nominalOfSet_5 : decode cX3_nominalOfSet 5 = .ok (.aload_n 0, 1) := by decide +kernel
theorem dX3_nominalOfSet_6 : decode cX3_nominalOfSet 6 = .ok (.getfield 50, 3) := by decide +kernel
theorem dX3_nominalOfSet_9 : decode cX3_nominalOfSet 9 = .ok (.if_icmp .ge 26, 3) := by decide +kernel
theorem dX3_nominalOfSet_12 : decode cX3_nominalOfSet 12 = .ok (.iload_n 1, 1) := by decide +kernel
theorem dX3_nominalOfSet_13 : decode cX3_nominalOfSet 13 = .ok (.iload_n 3, 1) := by decide +kernel
theorem dX3_nominalOfSet_14 : decode cX3_nominalOfSet 14 = .ok (.ishr, 1) := by decide +kernel
theorem dX3_nominalOfSet_15 : decode cX3_nominalOfSet 15 = .ok (.iconst 1, 1) := by decide +kernel
theorem dX3_nominalOfSet_16 : decode cX3_nominalOfSet 16 = .ok (.iand, 1) := by decide +kernel
theorem dX3_nominalOfSet_17 : decode cX3_nominalOfSet 17 = .ok (.ifCond .eq 12, 3) := by decide +kernel
theorem dX3_nominalOfSet_20 : decode cX3_nominalOfSet 20 = .ok (.iload_n 2, 1) := by decide +kernel
theorem dX3_nominalOfSet_21 : decode cX3_nominalOfSet 21 = .ok (.aload_n 0, 1) := by decide +kernel
theorem dX3_nominalOfSet_22 : decode cX3_nominalOfSet 22 = .ok (.getfield 9, 3) := by decide +kernel
theorem dX3_nominalOfSet_25 : decode cX3_nominalOfSet 25 = .ok (.iload_n 3, 1) := by decide +kernel
theorem dX3_nominalOfSet_26 : decode cX3_nominalOfSet 26 = .ok (.iaload, 1) := by decide +kernel
theorem dX3_nominalOfSet_27 : decode cX3_nominalOfSet 27 = .ok (.iadd, 1) := by decide +kernel
theorem dX3_nominalOfSet_28 : decode cX3_nominalOfSet 28 = .ok (.istore_n 2, 1) := by decide +kernel
theorem dX3_nominalOfSet_29 : decode cX3_nominalOfSet 29 = .ok (.iinc 3 1, 3) := by decide +kernel
theorem dX3_nominalOfSet_32 : decode cX3_nominalOfSet 32 = .ok (.goto (-28), 3) := by decide +kernel
theorem dX3_nominalOfSet_35 : decode cX3_nominalOfSet 35 = .ok (.iload_n 2, 1) := by decide +kernel
theorem dX3_nominalOfSet_36 : decode cX3_nominalOfSet 36 = .ok (.ireturn, 1) := by decide +kernel
set_option maxRecDepth 20000 in
theorem ggX3_trueLengthOf_X3_cooled : GoodIn wsX3_trueLengthOf wsX3_cooled := goodIn_r _ [8] (by decide +kernel) (by decide +kernel)
set_option maxRecDepth 20000 in
theorem gX3_trueLengthOf_X3_cooled : GoodIn wsX3_trueLengthOf (va_wsS RX3 93 yX3_cooled wsX3_cooled) := goodIn_app (goodIn_of _ (by decide +kernel)) ggX3_trueLengthOf_X3_cooled
theorem dX3_trueLengthOf_0 : decode cX3_trueLengthOf 0 = .ok (.aload_n 0, 1) := by decide +kernel
theorem dX3_trueLengthOf_1 : decode cX3_trueLengthOf 1 = .ok (.getfield 21, 3) := by decide +kernel
theorem dX3_trueLengthOf_4 : decode cX3_trueLengthOf 4 = .ok (.iload_n 1, 1) := by decide +kernel
theorem dX3_trueLengthOf_5 : decode cX3_trueLengthOf 5 = .ok (.iaload, 1) := by decide +kernel
theorem dX3_trueLengthOf_6 : decode cX3_trueLengthOf 6 = .ok (.iload_n 2, 1) := by decide +kernel
theorem dX3_trueLengthOf_7 : decode cX3_trueLengthOf 7 = .ok (.invokestatic 93, 3) := by decide +kernel
theorem dX3_trueLengthOf_10 : decode cX3_trueLengthOf 10 = .ok (.istore_n 3, 1) := by decide +kernel
theorem dX3_trueLengthOf_11 : decode cX3_trueLengthOf 11 = .ok (.sipush 1000, 3) := by decide +kernel
theorem dX3_trueLengthOf_14 : decode cX3_trueLengthOf 14 = .ok (.aload_n 0, 1) := by decide +kernel
theorem dX3_trueLengthOf_15 : decode cX3_trueLengthOf 15 = .ok (.getfield 9, 3) := by decide +kernel
theorem dX3_trueLengthOf_18 : decode cX3_trueLengthOf 18 = .ok (.iload_n 1, 1) := by decide +kernel
theorem dX3_trueLengthOf_19 : decode cX3_trueLengthOf 19 = .ok (.iaload, 1) := by decide +kernel
theorem dX3_trueLengthOf_20 : decode cX3_trueLengthOf 20 = .ok (.imul, 1) := by decide +kernel
theorem dX3_trueLengthOf_21 : decode cX3_trueLengthOf 21 = .ok (.aload_n 0, 1) := by decide +kernel
theorem dX3_trueLengthOf_22 : decode cX3_trueLengthOf 22 = .ok (.getfield 15, 3) := by decide +kernel
theorem dX3_trueLengthOf_25 : decode cX3_trueLengthOf 25 = .ok (.iload_n 1, 1) := by decide +kernel
theorem dX3_trueLengthOf_26 : decode cX3_trueLengthOf 26 = .ok (.iaload, 1) := by decide +kernel
theorem dX3_trueLengthOf_27 : decode cX3_trueLengthOf 27 = .ok (.iadd, 1) := by decide +kernel
theorem dX3_trueLengthOf_28 : decode cX3_trueLengthOf 28 = .ok (.aload_n 0, 1) := by decide +kernel
theorem dX3_trueLengthOf_29 : decode cX3_trueLengthOf 29 = .ok (.getfield 18, 3) := by decide +kernel
theorem dX3_trueLengthOf_32 : decode cX3_trueLengthOf 32 = .ok (.iload_n 1, 1) := by decide +kernel
theorem dX3_trueLengthOf_33 : decode cX3_trueLengthOf 33 = .ok (.iaload, 1) := by decide +kernel
theorem dX3_trueLengthOf_34 : decode cX3_trueLengthOf 34 = .ok (.isub, 1) := by decide +kernel
theorem dX3_trueLengthOf_35 : decode cX3_trueLengthOf 35 = .ok (.aload_n 0, 1) := by decide +kernel
theorem dX3_trueLengthOf_36 : decode cX3_trueLengthOf 36 = .ok (.getfield 9, 3) := by decide +kernel
theorem dX3_trueLengthOf_39 : decode cX3_trueLengthOf 39 = .ok (.iload_n 1, 1) := by decide +kernel
theorem dX3_trueLengthOf_40 : decode cX3_trueLengthOf 40 = .ok (.iaload, 1) := by decide +kernel
theorem dX3_trueLengthOf_41 : decode cX3_trueLengthOf 41 = .ok (.iload_n 3, 1) := by decide +kernel
theorem dX3_trueLengthOf_42 : decode cX3_trueLengthOf 42 = .ok (.imul, 1) := by decide +kernel
theorem dX3_trueLengthOf_43 : decode cX3_trueLengthOf 43 = .ok (.sipush 1000, 3) := by decide +kernel
theorem dX3_trueLengthOf_46 : decode cX3_trueLengthOf 46 = .ok (.idiv, 1) := by decide +kernel
theorem dX3_trueLengthOf_47 : decode cX3_trueLengthOf 47 = .ok (.bipush 115, 2) := by decide +kernel
theorem dX3_trueLengthOf_49 : decode cX3_trueLengthOf 49 = .ok (.imul, 1) := by decide +kernel
theorem dX3_trueLengthOf_50 : decode cX3_trueLengthOf 50 = .ok (.sipush 1000, 3) := by decide +kernel
theorem dX3_trueLengthOf_53 : decode cX3_trueLengthOf 53 = .ok (.idiv, 1) := by decide +kernel
theorem dX3_trueLengthOf_54 : decode cX3_trueLengthOf 54 = .ok (.iadd, 1) := by decide +kernel
theorem dX3_trueLengthOf_55 : decode cX3_trueLengthOf 55 = .ok (.ireturn, 1) := by decide +kernel
set_option maxRecDepth 20000 in
theorem ggX3_trueLengthOfStack_X3_trueLengthOf : GoodIn wsX3_trueLengthOfStack wsX3_trueLengthOf := goodIn_r _ [8, 9, 10, 11, 12, 13, 14, 7, 15, 16, 17, 18, 19, 20, 21, 22, 23, 24, 25, 26, 27, 28] (by decide +kernel) (by decide +kernel)
set_option maxRecDepth 20000 in
theorem gX3_trueLengthOfStack_X3_trueLengthOf : GoodIn wsX3_trueLengthOfStack (wsV RX3 133 RX3 yX3_trueLengthOf wsX3_trueLengthOf) := goodIn_app (goodIn_of _ (by decide +kernel)) ggX3_trueLengthOfStack_X3_trueLengthOf
theorem dX3_trueLengthOfStack_0 : decode cX3_trueLengthOfStack 0 = .ok (.iconst 0, 1) := by decide +kernel
theorem dX3_trueLengthOfStack_1 : decode cX3_trueLengthOfStack 1 = .ok (.istore_n 3, 1) := by decide +kernel
theorem dX3_trueLengthOfStack_2 : decode cX3_trueLengthOfStack 2 = .ok (.iconst 0, 1) := by decide +kernel
theorem dX3_trueLengthOfStack_3 : decode cX3_trueLengthOfStack 3 = .ok (.istore 4, 2) := by decide +kernel
theorem dX3_trueLengthOfStack_5 : decode cX3_trueLengthOfStack 5 = .ok (.iconst 0, 1) := by decide +kernel
theorem dX3_trueLengthOfStack_6 : decode cX3_trueLengthOfStack 6 = .ok (.istore 5, 2) := by decide +kernel
theorem dX3_trueLengthOfStack_8 : decode cX3_trueLengthOfStack 8 = .ok (.iload 5, 2) := by decide +kernel
theorem dX3_trueLengthOfStack_10 : decode cX3_trueLengthOfStack 10 = .ok (.aload_n 0, 1) := by decide +kernel
theorem dX3_trueLengthOfStack_11 : decode cX3_trueLengthOfStack 11 = .ok (.getfield 50, 3) := by decide +kernel
theorem dX3_trueLengthOfStack_14 : decode cX3_trueLengthOfStack 14 = .ok (.if_icmp .ge 33, 3) := by decide +kernel
theorem dX3_trueLengthOfStack_17 : decode cX3_trueLengthOfStack 17 = .ok (.aload_n 0, 1) := by decide +kernel
theorem dX3_trueLengthOfStack_18 : decode cX3_trueLengthOfStack 18 = .ok (.getfield 24, 3) := by decide +kernel
theorem dX3_trueLengthOfStack_21 : decode cX3_trueLengthOfStack 21 = .ok (.iload 5, 2) := by decide +kernel
theorem dX3_trueLengthOfStack_23 : decode cX3_trueLengthOfStack 23 = .ok (.iaload, 1) := by decide +kernel
theorem dX3_trueLengthOfStack_24 : decode cX3_trueLengthOfStack 24 = .ok (.iload_n 1, 1) := by decide +kernel
theorem dX3_trueLengthOfStack_25 : decode cX3_trueLengthOfStack 25 = .ok (.if_icmp .ne 16, 3) := by decide +kernel
theorem dX3_trueLengthOfStack_28 : decode cX3_trueLengthOfStack 28 = .ok (.iload_n 3, 1) := by decide +kernel
theorem dX3_trueLengthOfStack_29 : decode cX3_trueLengthOfStack 29 = .ok (.aload_n 0, 1) := by decide +kernel
theorem dX3_trueLengthOfStack_30 : decode cX3_trueLengthOfStack 30 = .ok (.iload 5, 2) := by decide +kernel
theorem dX3_trueLengthOfStack_32 : decode cX3_trueLengthOfStack 32 = .ok (.iload_n 2, 1) := by decide +kernel
theorem dX3_trueLengthOfStack_33 : decode cX3_trueLengthOfStack 33 = .ok (.invokevirtual 133, 3) := by decide +kernel
theorem dX3_trueLengthOfStack_36 : decode cX3_trueLengthOfStack 36 = .ok (.iadd, 1) := by decide +kernel
theorem dX3_trueLengthOfStack_37 : decode cX3_trueLengthOfStack 37 = .ok (.istore_n 3, 1) := by decide +kernel
theorem dX3_trueLengthOfStack_38 : decode cX3_trueLengthOfStack 38 = .ok (.iinc 4 1, 3) := by decide +kernel
theorem dX3_trueLengthOfStack_41 : decode cX3_trueLengthOfStack 41 = .ok (.iinc 5 1, 3) := by decide +kernel
theorem dX3_trueLengthOfStack_44 : decode cX3_trueLengthOfStack 44 = .ok (.goto (-36), 3) := by decide +kernel
theorem dX3_trueLengthOfStack_47 : decode cX3_trueLengthOfStack 47 = .ok (.iload 4, 2) := by decide +kernel
theorem dX3_trueLengthOfStack_49 : decode cX3_trueLengthOfStack 49 = .ok (.ifCond .ne 7, 3) := by decide +kernel
theorem dX3_trueLengthOfStack_52 : decode cX3_trueLengthOfStack 52 = .ok (.iconst 0, 1) := by decide +kernel
theorem dX3_trueLengthOfStack_53 : decode cX3_trueLengthOfStack 53 = .ok (.goto 16, 3) := by decide +kernel
theorem dX3_trueLengthOfStack_56 : decode cX3_trueLengthOfStack 56 = .ok (.iload_n 3, 1) := by decide +kernel
theorem dX3_trueLengthOfStack_57 : decode cX3_trueLengthOfStack 57 = .ok (.iload 4, 2) := by decide +kernel
theorem dX3_trueLengthOfStack_59 : decode cX3_trueLengthOfStack 59 = .ok (.iconst 1, 1) := by decide +kernel
theorem dX3_trueLengthOfStack_60 : decode cX3_trueLengthOfStack 60 = .ok (.isub, 1) := by decide +kernel
theorem dX3_trueLengthOfStack_61 : decode cX3_trueLengthOfStack 61 = .ok (.aload_n 0, 1) := by decide +kernel
theorem dX3_trueLengthOfStack_62 : decode cX3_trueLengthOfStack 62 = .ok (.getfield 41, 3) := by decide +kernel
theorem dX3_trueLengthOfStack_65 : decode cX3_trueLengthOfStack 65 = .ok (.iconst 0, 1) := by decide +kernel
theorem dX3_trueLengthOfStack_66 : decode cX3_trueLengthOfStack 66 = .ok (.iaload, 1) := by decide +kernel
theorem dX3_trueLengthOfStack_67 : decode cX3_trueLengthOfStack 67 = .ok (.imul, 1) := by decide +kernel
theorem dX3_trueLengthOfStack_68 : decode cX3_trueLengthOfStack 68 = .ok (.iadd, 1) := by decide +kernel
theorem dX3_trueLengthOfStack_69 : decode cX3_trueLengthOfStack 69 = .ok (.ireturn, 1) := by decide +kernel
set_option maxRecDepth 20000 in
theorem ggX3_sizeOfDifference_X3_trueLengthOfStack : GoodIn wsX3_sizeOfDifference wsX3_trueLengthOfStack := goodIn_r _ [9, 10, 11, 12, 13, 14, 15, 8, 16, 17, 18, 19, 20, 21, 22, 23, 32, 33, 34, 35, 36, 37, 38, 39, 40, 41, 42, 43, 44] (by decide +kernel) (by decide +kernel)
set_option maxRecDepth 20000 in
theorem gX3_sizeOfDifference_X3_trueLengthOfStack : GoodIn wsX3_sizeOfDifference (wsV RX3 136 RX3 yX3_trueLengthOfStack wsX3_trueLengthOfStack) := goodIn_app (goodIn_of _ (by decide +kernel)) ggX3_sizeOfDifference_X3_trueLengthOfStack
set_option maxRecDepth 20000 in
theorem ggX3_sizeOfDifference_X3_blocksIn : GoodIn wsX3_sizeOfDifference wsX3_blocksIn := goodIn_r _ [27, 10, 11, 32, 33, 34, 35, 36, 37, 38, 39, 40, 41, 42, 43, 44] (by decide +kernel) (by decide +kernel)
set_option maxRecDepth 20000 in
theorem gX3_sizeOfDifference_X3_blocksIn : GoodIn wsX3_sizeOfDifference (wsV RX3 125 RX3 yX3_blocksIn wsX3_blocksIn) := goodIn_app (goodIn_of _ (by decide +kernel)) ggX3_sizeOfDifference_X3_blocksIn
set_option maxRecDepth 20000 in
theorem ggX3_sizeOfDifference_X3_nominalOfSet : GoodIn wsX3_sizeOfDifference wsX3_nominalOfSet := goodIn_r _ [31, 10, 18, 32, 33, 34, 35, 36, 37, 38, 39, 40, 41, 42, 43, 44] (by decide +kernel) (by decide +kernel)
set_option maxRecDepth 20000 in
theorem gX3_sizeOfDifference_X3_nominalOfSet : GoodIn wsX3_sizeOfDifference (wsV RX3 139 RX3 yX3_nominalOfSet wsX3_nominalOfSet) := goodIn_app (goodIn_of _ (by decide +kernel)) ggX3_sizeOfDifference_X3_nominalOfSet
theorem dX3_sizeOfDifference_0 : decode cX3_sizeOfDifference 0 = .ok (.aload_n 0, 1) := by decide +kernel
theorem dX3_sizeOfDifference_1 : decode cX3_sizeOfDifference 1 = .ok (.iload_n 1, 1) := by decide +kernel
theorem dX3_sizeOfDifference_2 : decode cX3_sizeOfDifference 2 = .ok (.iconst 0, 1) := by decide +kernel
theorem dX3_sizeOfDifference_3 : decode cX3_sizeOfDifference 3 = .ok (.invokevirtual 136, 3) := by decide +kernel
theorem dX3_sizeOfDifference_6 : decode cX3_sizeOfDifference 6 = .ok (.sipush 1000, 3) := by decide +kernel
theorem dX3_sizeOfDifference_9 : decode cX3_sizeOfDifference 9 = .ok (.aload_n 0, 1) := by decide +kernel
theorem dX3_sizeOfDifference_10 : decode cX3_sizeOfDifference 10 = .ok (.aload_n 0, 1) := by decide +kernel
theorem dX3_sizeOfDifference_11 : decode cX3_sizeOfDifference 11 = .ok (.iload_n 1, 1) := by decide +kernel
theorem dX3_sizeOfDifference_12 : decode cX3_sizeOfDifference 12 = .ok (.invokevirtual 125, 3) := by decide +kernel
theorem dX3_sizeOfDifference_15 : decode cX3_sizeOfDifference 15 = .ok (.invokevirtual 139, 3) := by decide +kernel
theorem dX3_sizeOfDifference_18 : decode cX3_sizeOfDifference 18 = .ok (.imul, 1) := by decide +kernel
theorem dX3_sizeOfDifference_19 : decode cX3_sizeOfDifference 19 = .ok (.isub, 1) := by decide +kernel
theorem dX3_sizeOfDifference_20 : decode cX3_sizeOfDifference 20 = .ok (.invokestatic 78, 3) := by decide +kernel
theorem dX3_sizeOfDifference_23 : decode cX3_sizeOfDifference 23 = .ok (.ireturn, 1) := by decide +kernel
set_option maxRecDepth 20000 in
theorem ggX3_greatestGradeIn_X3_gradeOf : GoodIn wsX3_greatestGradeIn wsX3_gradeOf := goodIn_r _ [11, 12, 13, 14, 10, 15, 16, 17, 5, 18, 19, 20, 21, 22, 23, 24, 25, 26, 27, 28, 29, 30, 31, 32, 33, 34, 35, 36, 37] (by decide +kernel) (by decide +kernel)
set_option maxRecDepth 20000 in
theorem gX3_greatestGradeIn_X3_gradeOf : GoodIn wsX3_greatestGradeIn (wsV RX3 103 RX3 yX3_gradeOf wsX3_gradeOf) := goodIn_app (goodIn_of _ (by decide +kernel)) ggX3_greatestGradeIn_X3_gradeOf
theorem dX3_greatestGradeIn_0 : decode cX3_greatestGradeIn 0 = .ok (.iconst (-1), 1) := by decide +kernel
theorem dX3_greatestGradeIn_1 : decode cX3_greatestGradeIn 1 = .ok (.istore_n 2, 1) := by decide +kernel
theorem dX3_greatestGradeIn_2 : decode cX3_greatestGradeIn 2 = .ok (.iconst 0, 1) := by decide +kernel
theorem dX3_greatestGradeIn_3 : decode cX3_greatestGradeIn 3 = .ok (.istore_n 3, 1) := by decide +kernel
theorem dX3_greatestGradeIn_4 : decode cX3_greatestGradeIn 4 = .ok (.iload_n 3, 1) := by decide +kernel
theorem dX3_greatestGradeIn_5 : decode cX3_greatestGradeIn 5 = .ok (.aload_n 0, 1) := by decide +kernel
theorem dX3_greatestGradeIn_6 : decode cX3_greatestGradeIn 6 = .ok (.getfield 50, 3) := by decide +kernel
theorem dX3_greatestGradeIn_9 : decode cX3_greatestGradeIn 9 = .ok (.if_icmp .ge 29, 3) := by decide +kernel
theorem dX3_greatestGradeIn_12 : decode cX3_greatestGradeIn 12 = .ok (.aload_n 0, 1) := by decide +kernel
theorem dX3_greatestGradeIn_13 : decode cX3_greatestGradeIn 13 = .ok (.getfield 24, 3) := by decide +kernel
theorem dX3_greatestGradeIn_16 : decode cX3_greatestGradeIn 16 = .ok (.iload_n 3, 1) := by decide +kernel
theorem dX3_greatestGradeIn_17 : decode cX3_greatestGradeIn 17 = .ok (.iaload, 1) := by decide +kernel
theorem dX3_greatestGradeIn_18 : decode cX3_greatestGradeIn 18 = .ok (.iload_n 1, 1) := by decide +kernel
theorem dX3_greatestGradeIn_19 : decode cX3_greatestGradeIn 19 = .ok (.if_icmp .ne 13, 3) := by decide +kernel
theorem dX3_greatestGradeIn_22 : decode cX3_greatestGradeIn 22 = .ok (.iload_n 2, 1) := by decide +kernel
theorem dX3_greatestGradeIn_23 : decode cX3_greatestGradeIn 23 = .ok (.aload_n 0, 1) := by decide +kernel
theorem dX3_greatestGradeIn_24 : decode cX3_greatestGradeIn 24 = .ok (.iload_n 3, 1) := by decide +kernel
theorem dX3_greatestGradeIn_25 : decode cX3_greatestGradeIn 25 = .ok (.invokevirtual 103, 3) := by decide +kernel
theorem dX3_greatestGradeIn_28 : decode cX3_greatestGradeIn 28 = .ok (.invokestatic 86, 3) := by decide +kernel
theorem dX3_greatestGradeIn_31 : decode cX3_greatestGradeIn 31 = .ok (.istore_n 2, 1) := by decide +kernel
theorem dX3_greatestGradeIn_32 : decode cX3_greatestGradeIn 32 = .ok (.iinc 3 1, 3) := by decide +kernel
theorem dX3_greatestGradeIn_35 : decode cX3_greatestGradeIn 35 = .ok (.goto (-31), 3) := by decide +kernel
theorem dX3_greatestGradeIn_38 : decode cX3_greatestGradeIn 38 = .ok (.iload_n 2, 1) := by decide +kernel
theorem dX3_greatestGradeIn_39 : decode cX3_greatestGradeIn 39 = .ok (.ireturn, 1) := by decide +kernel
set_option maxRecDepth 20000 in
theorem ggX4_init_X3_init : GoodIn wsX4_init wsX3_init := goodIn_r _ [18, 19, 2, 3, 20, 21, 22, 23, 24, 25, 26, 27, 28, 29, 30, 31, 32, 33, 34, 45, 46, 47, 48, 49, 50, 51, 52, 53, 54, 55, 56, 57] (by decide +kernel) (by decide +kernel)
set_option maxRecDepth 20000 in
theorem gX4_init_X3_init_n11 : GoodIn wsX4_init (wsX3_init) := ggX4_init_X3_init
set_option maxRecDepth 20000 in
theorem ggX4_init_X2_init : GoodIn wsX4_init wsX2_init := goodIn_r _ [37, 38, 2, 3, 39, 40, 5, 6, 17, 18, 19, 20, 21, 22, 23, 24, 25, 26, 27, 28, 29, 30, 31, 32, 33, 34, 62, 63, 45, 46, 47, 48, 49, 50, 51, 52, 53, 54, 55, 56, 57] (by decide +kernel) (by decide +kernel)
set_option maxRecDepth 20000 in
theorem gX4_init_X2_init : GoodIn wsX4_init (wsX2_init) := ggX4_init_X2_init
set_option maxRecDepth 20000 in
theorem ggX4_init_X1_init : GoodIn wsX4_init wsX1_init := goodIn_r _ [42, 43, 2, 3, 20, 44, 64, 65, 66, 67, 68, 69] (by decide +kernel) (by decide +kernel)
set_option maxRecDepth 20000 in
theorem gX4_init_X1_init_n29 : GoodIn wsX4_init (wsX1_init) := ggX4_init_X1_init
theorem dX4_init_0 : decode cX4_init 0 = .ok (.aload_n 0, 1) := by decide +kernel
theorem dX4_init_1 : decode cX4_init 1 = .ok (.invokespecial 3, 3) := by decide +kernel
theorem dX4_init_4 : decode cX4_init 4 = .ok (.aload_n 0, 1) := by decide +kernel
theorem dX4_init_5 : decode cX4_init 5 = .ok (.new 9, 3) := by decide +kernel
theorem dX4_init_8 : decode cX4_init 8 = .ok (.dup, 1) := by decide +kernel
theorem dX4_init_9 : decode cX4_init 9 = .ok (.invokespecial 11, 3) := by decide +kernel
theorem dX4_init_12 : decode cX4_init 12 = .ok (.putfield 12, 3) := by decide +kernel
theorem dX4_init_15 : decode cX4_init 15 = .ok (.aload_n 0, 1) := by decide +kernel
theorem dX4_init_16 : decode cX4_init 16 = .ok (.new 16, 3) := by decide +kernel
theorem dX4_init_19 : decode cX4_init 19 = .ok (.dup, 1) := by decide +kernel
theorem dX4_init_20 : decode cX4_init 20 = .ok (.invokespecial 18, 3) := by decide +kernel
theorem dX4_init_23 : decode cX4_init 23 = .ok (.putfield 19, 3) := by decide +kernel
theorem dX4_init_26 : decode cX4_init 26 = .ok (.aload_n 0, 1) := by decide +kernel
theorem dX4_init_27 : decode cX4_init 27 = .ok (.iconst 2, 1) := by decide +kernel
theorem dX4_init_28 : decode cX4_init 28 = .ok (.anewarray 9, 3) := by decide +kernel
theorem dX4_init_31 : decode cX4_init 31 = .ok (.putfield 23, 3) := by decide +kernel
theorem dX4_init_34 : decode cX4_init 34 = .ok (.aload_n 0, 1) := by decide +kernel
theorem dX4_init_35 : decode cX4_init 35 = .ok (.new 27, 3) := by decide +kernel
theorem dX4_init_38 : decode cX4_init 38 = .ok (.dup, 1) := by decide +kernel
theorem dX4_init_39 : decode cX4_init 39 = .ok (.invokespecial 29, 3) := by decide +kernel
theorem dX4_init_42 : decode cX4_init 42 = .ok (.putfield 30, 3) := by decide +kernel
theorem dX4_init_45 : decode cX4_init 45 = .ok (.return_, 1) := by decide +kernel
set_option maxRecDepth 20000 in
theorem ggX4_block_X4_checkRange : GoodIn wsX4_block wsX4_checkRange := goodIn_ca (goodIn_r _ [9, 10, 11] (by decide +kernel) (by decide +kernel)) (goodIn_sub (fun _ h => List.mem_cons_of_mem _ (List.mem_append_right _ h)) (by decide +kernel))
set_option maxRecDepth 20000 in
theorem gX4_block_X4_checkRange : GoodIn wsX4_block (va_wsS RX4 35 yX4_checkRange wsX4_checkRange) := goodIn_app (goodIn_of _ (by decide +kernel)) ggX4_block_X4_checkRange
set_option maxRecDepth 20000 in
theorem ggX4_block_X3_isFull : GoodIn wsX4_block wsX3_isFull := goodIn_r _ [16, 17, 58, 59, 60, 61, 62, 63, 64, 65, 66, 67, 68, 69, 70] (by decide +kernel) (by decide +kernel)
set_option maxRecDepth 20000 in
theorem gX4_block_X3_isFull : GoodIn wsX4_block (wsV RX4 39 RX3 yX3_isFull wsX3_isFull) := goodIn_app (goodIn_of _ (by decide +kernel)) ggX4_block_X3_isFull
set_option maxRecDepth 20000 in
theorem ggX4_block_X2_push : GoodIn wsX4_block wsX2_push := goodIn_r _ [22, 23, 24, 25, 26, 27, 21, 28, 29, 30, 31, 15, 32, 33, 34, 35, 36, 37, 38, 39, 40, 41, 42, 43, 44, 17, 45, 46, 47, 48, 71, 72, 58, 59, 60, 61, 62, 63, 64, 65, 66, 67, 68, 69, 70] (by decide +kernel) (by decide +kernel)
set_option maxRecDepth 20000 in
theorem gX4_block_X2_push : GoodIn wsX4_block (wsV RX4 50 RX2 yX2_push wsX2_push) := goodIn_app (goodIn_of _ (by decide +kernel)) ggX4_block_X2_push
set_option maxRecDepth 20000 in
theorem ggX4_block_X3_addBlock : GoodIn wsX4_block wsX3_addBlock := goodIn_r _ [52, 17, 33, 38, 39, 40, 41, 42, 43, 53, 13, 14, 15, 16, 58, 59, 60, 61, 62, 63, 64, 65, 66, 67, 68, 69, 70] (by decide +kernel) (by decide +kernel)
set_option maxRecDepth 20000 in
theorem gX4_block_X3_addBlock : GoodIn wsX4_block (wsV RX4 54 RX3 yX3_addBlock wsX3_addBlock) := goodIn_app (goodIn_of _ (by decide +kernel)) ggX4_block_X3_addBlock
theorem dX4_block_0 : decode cX4_block 0 = .ok (.iload_n 1, 1) := by decide +kernel
theorem dX4_block_1 : decode cX4_block 1 = .ok (.sipush 500, 3) := by decide +kernel
theorem dX4_block_4 : decode cX4_block 4 = .ok (.ldc 34, 2) := by decide +kernel
theorem dX4_block_6 : decode cX4_block 6 = .ok (.invokestatic 35, 3) := by decide +kernel
theorem dX4_block_9 : decode cX4_block 9 = .ok (.iload_n 2, 1) := by decide +kernel
theorem dX4_block_10 : decode cX4_block 10 = .ok (.sipush (-900), 3) := by decide +kernel
theorem dX4_block_13 : decode cX4_block 13 = .ok (.sipush 900, 3) := by decide +kernel
theorem dX4_block_16 : decode cX4_block 16 = .ok (.invokestatic 35, 3) := by decide +kernel
theorem dX4_block_19 : decode cX4_block 19 = .ok (.aload_n 0, 1) := by decide +kernel
theorem dX4_block_20 : decode cX4_block 20 = .ok (.getfield 12, 3) := by decide +kernel
theorem dX4_block_23 : decode cX4_block 23 = .ok (.invokevirtual 39, 3) := by decide +kernel
theorem dX4_block_26 : decode cX4_block 26 = .ok (.ifCond .eq 13, 3) := by decide +kernel
theorem dX4_block_29 : decode cX4_block 29 = .ok (.new 43, 3) := by decide +kernel
theorem dX4_block_32 : decode cX4_block 32 = .ok (.dup, 1) := by decide +kernel
theorem dX4_block_33 : decode cX4_block 33 = .ok (.ldc 45, 2) := by decide +kernel
theorem dX4_block_35 : decode cX4_block 35 = .ok (.invokespecial 47, 3) := by decide +kernel
theorem dX4_block_38 : decode cX4_block 38 = .ok (.athrow, 1) := by decide +kernel
theorem dX4_block_39 : decode cX4_block 39 = .ok (.aload_n 0, 1) := by decide +kernel
theorem dX4_block_40 : decode cX4_block 40 = .ok (.getfield 19, 3) := by decide +kernel
theorem dX4_block_43 : decode cX4_block 43 = .ok (.aload_n 0, 1) := by decide +kernel
theorem dX4_block_44 : decode cX4_block 44 = .ok (.getfield 12, 3) := by decide +kernel
theorem dX4_block_47 : decode cX4_block 47 = .ok (.invokevirtual 50, 3) := by decide +kernel
theorem dX4_block_50 : decode cX4_block 50 = .ok (.aload_n 0, 1) := by decide +kernel
theorem dX4_block_51 : decode cX4_block 51 = .ok (.getfield 12, 3) := by decide +kernel
theorem dX4_block_54 : decode cX4_block 54 = .ok (.iload_n 1, 1) := by decide +kernel
theorem dX4_block_55 : decode cX4_block 55 = .ok (.iload_n 2, 1) := by decide +kernel
theorem dX4_block_56 : decode cX4_block 56 = .ok (.invokevirtual 54, 3) := by decide +kernel
theorem dX4_block_59 : decode cX4_block 59 = .ok (.ireturn, 1) := by decide +kernel
set_option maxRecDepth 20000 in
theorem ggX4_discard_X4_checkBlock : GoodIn wsX4_discard wsX4_checkBlock := goodIn_ca (goodIn_r _ [8, 9, 10, 2, 11, 12, 13, 14, 15, 16, 66, 67, 68, 69, 70, 71, 72, 73, 74, 75, 76, 77, 78, 79, 80, 81, 82] (by decide +kernel) (by decide +kernel)) (goodIn_sub (fun _ h => List.mem_cons_of_mem _ (List.mem_append_left _ (List.mem_append_right _ h))) (by decide +kernel))
set_option maxRecDepth 20000 in
theorem gX4_discard_X4_checkBlock : GoodIn wsX4_discard (wsV RX4 58 RX4 yX4_checkBlock wsX4_checkBlock) := goodIn_app (goodIn_of _ (by decide +kernel)) ggX4_discard_X4_checkBlock
set_option maxRecDepth 20000 in
theorem ggX4_discard_X4_checkFree : GoodIn wsX4_discard wsX4_checkFree := goodIn_ca (goodIn_r _ [20, 21, 22, 2, 23, 24, 25, 14, 26, 27, 66, 67, 68, 69, 70, 71, 72, 73, 74, 75, 76, 77, 78, 79, 80, 81, 82] (by decide +kernel) (by decide +kernel)) (goodIn_sub (fun _ h => List.mem_cons_of_mem _ (List.mem_append_right _ h)) (by decide +kernel))
set_option maxRecDepth 20000 in
theorem gX4_discard_X4_checkFree : GoodIn wsX4_discard (wsV RX4 62 RX4 yX4_checkFree wsX4_checkFree) := goodIn_app (goodIn_of _ (by decide +kernel)) ggX4_discard_X4_checkFree
set_option maxRecDepth 20000 in
theorem ggX4_discard_X2_push : GoodIn wsX4_discard wsX2_push := goodIn_r _ [32, 33, 34, 35, 36, 37, 31, 38, 39, 40, 41, 14, 42, 43, 44, 45, 46, 47, 48, 49, 50, 27, 51, 52, 53, 16, 54, 55, 56, 57, 83, 84, 70, 71, 72, 73, 74, 75, 76, 77, 78, 79, 80, 81, 82] (by decide +kernel) (by decide +kernel)
set_option maxRecDepth 20000 in
theorem gX4_discard_X2_push : GoodIn wsX4_discard (wsV RX4 50 RX2 yX2_push wsX2_push) := goodIn_app (goodIn_of _ (by decide +kernel)) ggX4_discard_X2_push
set_option maxRecDepth 20000 in
theorem ggX4_discard_X3_removeBlock : GoodIn wsX4_discard wsX3_removeBlock := goodIn_r _ [61, 43, 48, 49, 50, 27, 51, 52, 16, 62, 63, 64, 14, 65, 70, 71, 72, 73, 74, 75, 76, 77, 78, 79, 80, 81, 82] (by decide +kernel) (by decide +kernel)
set_option maxRecDepth 20000 in
theorem gX4_discard_X3_removeBlock : GoodIn wsX4_discard (wsV RX4 65 RX3 yX3_removeBlock wsX3_removeBlock) := goodIn_app (goodIn_of _ (by decide +kernel)) ggX4_discard_X3_removeBlock
theorem dX4_discard_0 : decode cX4_discard 0 = .ok (.aload_n 0, 1) := by decide +kernel
theorem dX4_discard_1 : decode cX4_discard 1 = .ok (.iload_n 1, 1) := by decide +kernel
theorem dX4_discard_2 : decode cX4_discard 2 = .ok (.invokevirtual 58, 3) := by decide +kernel
theorem dX4_discard_5 : decode cX4_discard 5 = .ok (.aload_n 0, 1) := by decide +kernel
theorem dX4_discard_6 : decode cX4_discard 6 = .ok (.iload_n 1, 1) := by decide +kernel
theorem dX4_discard_7 : decode cX4_discard 7 = .ok (.invokevirtual 62, 3) := by decide +kernel
theorem dX4_discard_10 : decode cX4_discard 10 = .ok (.aload_n 0, 1) := by decide +kernel
theorem dX4_discard_11 : decode cX4_discard 11 = .ok (.getfield 19, 3) := by decide +kernel
theorem dX4_discard_14 : decode cX4_discard 14 = .ok (.aload_n 0, 1) := by decide +kernel
theorem dX4_discard_15 : decode cX4_discard 15 = .ok (.getfield 12, 3) := by decide +kernel
theorem dX4_discard_18 : decode cX4_discard 18 = .ok (.invokevirtual 50, 3) := by decide +kernel
theorem dX4_discard_21 : decode cX4_discard 21 = .ok (.aload_n 0, 1) := by decide +kernel
theorem dX4_discard_22 : decode cX4_discard 22 = .ok (.getfield 12, 3) := by decide +kernel
theorem dX4_discard_25 : decode cX4_discard 25 = .ok (.iload_n 1, 1) := by decide +kernel
theorem dX4_discard_26 : decode cX4_discard 26 = .ok (.invokevirtual 65, 3) := by decide +kernel
theorem dX4_discard_29 : decode cX4_discard 29 = .ok (.aload_n 0, 1) := by decide +kernel
theorem dX4_discard_30 : decode cX4_discard 30 = .ok (.getfield 12, 3) := by decide +kernel
theorem dX4_discard_33 : decode cX4_discard 33 = .ok (.getfield 68, 3) := by decide +kernel
theorem dX4_discard_36 : decode cX4_discard 36 = .ok (.ireturn, 1) := by decide +kernel
set_option maxRecDepth 20000 in
theorem ggX4_calibrate_X4_checkBlock : GoodIn wsX4_calibrate wsX4_checkBlock := goodIn_ca (goodIn_r _ [7, 8, 9, 2, 10, 11, 12, 13, 14, 15, 80, 81, 82, 83, 84, 85, 86, 87, 88, 89, 90, 91, 92, 93, 94, 95, 96] (by decide +kernel) (by decide +kernel)) (goodIn_sub (fun _ h => List.mem_cons_of_mem _ (List.mem_append_left _ (List.mem_append_right _ h))) (by decide +kernel))
set_option maxRecDepth 20000 in
theorem gX4_calibrate_X4_checkBlock : GoodIn wsX4_calibrate (wsV RX4 58 RX4 yX4_checkBlock wsX4_checkBlock) := goodIn_app (goodIn_of _ (by decide +kernel)) ggX4_calibrate_X4_checkBlock
set_option maxRecDepth 20000 in
theorem ggX4_calibrate_X4_checkFree : GoodIn wsX4_calibrate wsX4_checkFree := goodIn_ca (goodIn_r _ [19, 20, 21, 2, 22, 23, 24, 13, 25, 26, 80, 81, 82, 83, 84, 85, 86, 87, 88, 89, 90, 91, 92, 93, 94, 95, 96] (by decide +kernel) (by decide +kernel)) (goodIn_sub (fun _ h => List.mem_cons_of_mem _ (List.mem_append_right _ h)) (by decide +kernel))
set_option maxRecDepth 20000 in
theorem gX4_calibrate_X4_checkFree : GoodIn wsX4_calibrate (wsV RX4 62 RX4 yX4_checkFree wsX4_checkFree) := goodIn_app (goodIn_of _ (by decide +kernel)) ggX4_calibrate_X4_checkFree
set_option maxRecDepth 20000 in
theorem ggX4_calibrate_X2_push : GoodIn wsX4_calibrate wsX2_push := goodIn_r _ [31, 32, 33, 34, 35, 36, 30, 37, 38, 39, 40, 13, 41, 42, 43, 44, 45, 46, 47, 48, 49, 26, 50, 51, 52, 15, 53, 54, 55, 56, 97, 98, 84, 85, 86, 87, 88, 89, 90, 91, 92, 93, 94, 95, 96] (by decide +kernel) (by decide +kernel)
set_option maxRecDepth 20000 in
theorem gX4_calibrate_X2_push : GoodIn wsX4_calibrate (wsV RX4 50 RX2 yX2_push wsX2_push) := goodIn_app (goodIn_of _ (by decide +kernel)) ggX4_calibrate_X2_push
set_option maxRecDepth 20000 in
theorem ggX4_calibrate_X3_turnWearIntoDeviation : GoodIn wsX4_calibrate wsX3_turnWearIntoDeviation := goodIn_r _ [60, 47, 61, 62, 63, 64, 48, 65, 66, 67, 13, 68, 84, 85, 86, 87, 88, 89, 90, 91, 92, 93, 94, 95, 96] (by decide +kernel) (by decide +kernel)
set_option maxRecDepth 20000 in
theorem gX4_calibrate_X3_turnWearIntoDeviation : GoodIn wsX4_calibrate (wsV RX4 72 RX3 yX3_turnWearIntoDeviation wsX3_turnWearIntoDeviation) := goodIn_app (goodIn_of _ (by decide +kernel)) ggX4_calibrate_X3_turnWearIntoDeviation
set_option maxRecDepth 20000 in
theorem ggX4_calibrate_X3_gradeOf : GoodIn wsX4_calibrate wsX3_gradeOf := goodIn_r _ [72, 73, 74, 75, 13, 76, 77, 78, 63, 79, 65, 66, 67, 68, 47, 48, 84, 85, 86, 87, 88, 89, 90, 91, 92, 93, 94, 95, 96] (by decide +kernel) (by decide +kernel)
set_option maxRecDepth 20000 in
theorem gX4_calibrate_X3_gradeOf : GoodIn wsX4_calibrate (wsV RX4 75 RX3 yX3_gradeOf wsX3_gradeOf) := goodIn_app (goodIn_of _ (by decide +kernel)) ggX4_calibrate_X3_gradeOf
theorem dX4_calibrate_0 : decode cX4_calibrate 0 = .ok (.aload_n 0, 1) := by decide +kernel
theorem dX4_calibrate_1 : decode cX4_calibrate 1 = .ok (.iload_n 1, 1) := by decide +kernel
theorem dX4_calibrate_2 : decode cX4_calibrate 2 = .ok (.invokevirtual 58, 3) := by decide +kernel
theorem dX4_calibrate_5 : decode cX4_calibrate 5 = .ok (.aload_n 0, 1) := by decide +kernel
theorem dX4_calibrate_6 : decode cX4_calibrate 6 = .ok (.iload_n 1, 1) := by decide +kernel
theorem dX4_calibrate_7 : decode cX4_calibrate 7 = .ok (.invokevirtual 62, 3) := by decide +kernel
theorem dX4_calibrate_10 : decode cX4_calibrate 10 = .ok (.aload_n 0, 1) := by decide +kernel
theorem dX4_calibrate_11 : decode cX4_calibrate 11 = .ok (.getfield 19, 3) := by decide +kernel
theorem dX4_calibrate_14 : decode cX4_calibrate 14 = .ok (.aload_n 0, 1) := by decide +kernel
theorem dX4_calibrate_15 : decode cX4_calibrate 15 = .ok (.getfield 12, 3) := by decide +kernel
theorem dX4_calibrate_18 : decode cX4_calibrate 18 = .ok (.invokevirtual 50, 3) := by decide +kernel
theorem dX4_calibrate_21 : decode cX4_calibrate 21 = .ok (.aload_n 0, 1) := by decide +kernel
theorem dX4_calibrate_22 : decode cX4_calibrate 22 = .ok (.getfield 12, 3) := by decide +kernel
theorem dX4_calibrate_25 : decode cX4_calibrate 25 = .ok (.iload_n 1, 1) := by decide +kernel
theorem dX4_calibrate_26 : decode cX4_calibrate 26 = .ok (.invokevirtual 72, 3) := by decide +kernel
theorem dX4_calibrate_29 : decode cX4_calibrate 29 = .ok (.aload_n 0, 1) := by decide +kernel
theorem dX4_calibrate_30 : decode cX4_calibrate 30 = .ok (.getfield 12, 3) := by decide +kernel
theorem dX4_calibrate_33 : decode cX4_calibrate 33 = .ok (.iload_n 1, 1) := by decide +kernel
theorem dX4_calibrate_34 : decode cX4_calibrate 34 = .ok (.invokevirtual 75, 3) := by decide +kernel
theorem dX4_calibrate_37 : decode cX4_calibrate 37 = .ok (.ireturn, 1) := by decide +kernel
set_option maxRecDepth 20000 in
theorem ggX4_hold_X4_checkBlock : GoodIn wsX4_hold wsX4_checkBlock := goodIn_ca (goodIn_r _ [8, 9, 10, 2, 11, 12, 13, 14, 15, 16, 61, 62, 63, 64, 65, 66, 67, 68, 69, 70, 71, 72, 73, 74, 75, 76, 77] (by decide +kernel) (by decide +kernel)) (goodIn_sub (fun _ h => List.mem_cons_of_mem _ (List.mem_append_left _ (List.mem_append_right _ h))) (by decide +kernel))
set_option maxRecDepth 20000 in
theorem gX4_hold_X4_checkBlock : GoodIn wsX4_hold (wsV RX4 58 RX4 yX4_checkBlock wsX4_checkBlock) := goodIn_app (goodIn_of _ (by decide +kernel)) ggX4_hold_X4_checkBlock
set_option maxRecDepth 20000 in
theorem ggX4_hold_X4_checkRange : GoodIn wsX4_hold wsX4_checkRange := goodIn_ca (goodIn_r _ [19, 20, 21] (by decide +kernel) (by decide +kernel)) (goodIn_sub (fun _ h => List.mem_cons_of_mem _ (List.mem_append_right _ h)) (by decide +kernel))
set_option maxRecDepth 20000 in
theorem gX4_hold_X4_checkRange : GoodIn wsX4_hold (va_wsS RX4 35 yX4_checkRange wsX4_checkRange) := goodIn_app (goodIn_of _ (by decide +kernel)) ggX4_hold_X4_checkRange
set_option maxRecDepth 20000 in
theorem ggX4_hold_X2_push : GoodIn wsX4_hold wsX2_push := goodIn_r _ [26, 27, 28, 29, 30, 31, 25, 32, 33, 34, 35, 14, 36, 37, 38, 39, 40, 41, 42, 43, 44, 45, 46, 47, 48, 16, 49, 50, 51, 52, 78, 79, 65, 66, 67, 68, 69, 70, 71, 72, 73, 74, 75, 76, 77] (by decide +kernel) (by decide +kernel)
set_option maxRecDepth 20000 in
theorem gX4_hold_X2_push : GoodIn wsX4_hold (wsV RX4 50 RX2 yX2_push wsX2_push) := goodIn_app (goodIn_of _ (by decide +kernel)) ggX4_hold_X2_push
set_option maxRecDepth 20000 in
theorem ggX4_hold_X3_warm : GoodIn wsX4_hold wsX3_warm := goodIn_r _ [56, 44, 57, 58, 59, 60, 65, 66, 67, 68, 69, 70, 71, 72, 73, 74, 75, 76, 77] (by decide +kernel) (by decide +kernel)
set_option maxRecDepth 20000 in
theorem gX4_hold_X3_warm : GoodIn wsX4_hold (wsV RX4 79 RX3 yX3_warm wsX3_warm) := goodIn_app (goodIn_of _ (by decide +kernel)) ggX4_hold_X3_warm
theorem dX4_hold_0 : decode cX4_hold 0 = .ok (.aload_n 0, 1) := by decide +kernel
theorem dX4_hold_1 : decode cX4_hold 1 = .ok (.iload_n 1, 1) := by decide +kernel
theorem dX4_hold_2 : decode cX4_hold 2 = .ok (.invokevirtual 58, 3) := by decide +kernel
theorem dX4_hold_5 : decode cX4_hold 5 = .ok (.iload_n 2, 1) := by decide +kernel
theorem dX4_hold_6 : decode cX4_hold 6 = .ok (.iconst 1, 1) := by decide +kernel
theorem dX4_hold_7 : decode cX4_hold 7 = .ok (.bipush 60, 2) := by decide +kernel
theorem dX4_hold_9 : decode cX4_hold 9 = .ok (.invokestatic 35, 3) := by decide +kernel
theorem dX4_hold_12 : decode cX4_hold 12 = .ok (.aload_n 0, 1) := by decide +kernel
theorem dX4_hold_13 : decode cX4_hold 13 = .ok (.getfield 19, 3) := by decide +kernel
theorem dX4_hold_16 : decode cX4_hold 16 = .ok (.aload_n 0, 1) := by decide +kernel
theorem dX4_hold_17 : decode cX4_hold 17 = .ok (.getfield 12, 3) := by decide +kernel
theorem dX4_hold_20 : decode cX4_hold 20 = .ok (.invokevirtual 50, 3) := by decide +kernel
theorem dX4_hold_23 : decode cX4_hold 23 = .ok (.aload_n 0, 1) := by decide +kernel
theorem dX4_hold_24 : decode cX4_hold 24 = .ok (.getfield 12, 3) := by decide +kernel
theorem dX4_hold_27 : decode cX4_hold 27 = .ok (.iload_n 1, 1) := by decide +kernel
theorem dX4_hold_28 : decode cX4_hold 28 = .ok (.iload_n 2, 1) := by decide +kernel
theorem dX4_hold_29 : decode cX4_hold 29 = .ok (.iconst 5, 1) := by decide +kernel
theorem dX4_hold_30 : decode cX4_hold 30 = .ok (.imul, 1) := by decide +kernel
theorem dX4_hold_31 : decode cX4_hold 31 = .ok (.invokevirtual 79, 3) := by decide +kernel
theorem dX4_hold_34 : decode cX4_hold 34 = .ok (.aload_n 0, 1) := by decide +kernel
theorem dX4_hold_35 : decode cX4_hold 35 = .ok (.getfield 12, 3) := by decide +kernel
theorem dX4_hold_38 : decode cX4_hold 38 = .ok (.getfield 83, 3) := by decide +kernel
theorem dX4_hold_41 : decode cX4_hold 41 = .ok (.iload_n 1, 1) := by decide +kernel
theorem dX4_hold_42 : decode cX4_hold 42 = .ok (.iaload, 1) := by decide +kernel
theorem dX4_hold_43 : decode cX4_hold 43 = .ok (.ireturn, 1) := by decide +kernel
set_option maxRecDepth 20000 in
theorem ggX4_rest_X4_checkRange : GoodIn wsX4_rest wsX4_checkRange := goodIn_ca (goodIn_r _ [6, 7, 8] (by decide +kernel) (by decide +kernel)) (goodIn_sub (fun _ h => List.mem_cons_of_mem _ (List.mem_append_right _ h)) (by decide +kernel))
set_option maxRecDepth 20000 in
theorem gX4_rest_X4_checkRange : GoodIn wsX4_rest (va_wsS RX4 35 yX4_checkRange wsX4_checkRange) := goodIn_app (goodIn_of _ (by decide +kernel)) ggX4_rest_X4_checkRange
set_option maxRecDepth 20000 in
theorem ggX4_rest_X2_push : GoodIn wsX4_rest wsX2_push := goodIn_r _ [13, 14, 15, 16, 17, 18, 12, 19, 20, 21, 22, 23, 24, 25, 26, 27, 28, 29, 30, 31, 32, 33, 34, 35, 36, 37, 38, 39, 40, 41, 61, 62, 63, 64, 65, 66, 67, 68, 69, 70, 71, 72, 73, 74, 75] (by decide +kernel) (by decide +kernel)
set_option maxRecDepth 20000 in
theorem gX4_rest_X2_push : GoodIn wsX4_rest (wsV RX4 50 RX2 yX2_push wsX2_push) := goodIn_app (goodIn_of _ (by decide +kernel)) ggX4_rest_X2_push
set_option maxRecDepth 20000 in
theorem ggX4_rest_X3_letPass : GoodIn wsX4_rest wsX3_letPass := goodIn_r _ [45, 37, 32, 38, 46, 47, 23, 48, 63, 64, 65, 66, 67, 68, 69, 70, 71, 72, 73, 74, 75] (by decide +kernel) (by decide +kernel)
set_option maxRecDepth 20000 in
theorem gX4_rest_X3_letPass : GoodIn wsX4_rest (wsV RX4 87 RX3 yX3_letPass wsX3_letPass) := goodIn_app (goodIn_of _ (by decide +kernel)) ggX4_rest_X3_letPass
set_option maxRecDepth 20000 in
theorem ggX4_rest_X3_greatestWarmth : GoodIn wsX4_rest wsX3_greatestWarmth := goodIn_r _ [52, 37, 32, 53, 54, 55, 56, 63, 64, 65, 66, 67, 68, 69, 70, 71, 72, 73, 74, 75] (by decide +kernel) (by decide +kernel)
set_option maxRecDepth 20000 in
theorem gX4_rest_X3_greatestWarmth : GoodIn wsX4_rest (wsV RX4 90 RX3 yX3_greatestWarmth wsX3_greatestWarmth) := goodIn_app (goodIn_of _ (by decide +kernel)) ggX4_rest_X3_greatestWarmth
theorem dX4_rest_0 : decode cX4_rest 0 = .ok (.iload_n 1, 1) := by decide +kernel
theorem dX4_rest_1 : decode cX4_rest 1 = .ok (.iconst 1, 1) := by decide +kernel
theorem dX4_rest_2 : decode cX4_rest 2 = .ok (.bipush 60, 2) := by decide +kernel
theorem dX4_rest_4 : decode cX4_rest 4 = .ok (.invokestatic 35, 3) := by decide +kernel
theorem dX4_rest_7 : decode cX4_rest 7 = .ok (.aload_n 0, 1) := by decide +kernel
theorem dX4_rest_8 : decode cX4_rest 8 = .ok (.getfield 19, 3) := by decide +kernel
theorem dX4_rest_11 : decode cX4_rest 11 = .ok (.aload_n 0, 1) := by decide +kernel
theorem dX4_rest_12 : decode cX4_rest 12 = .ok (.getfield 12, 3) := by decide +kernel
theorem dX4_rest_15 : decode cX4_rest 15 = .ok (.invokevirtual 50, 3) := by decide +kernel
theorem dX4_rest_18 : decode cX4_rest 18 = .ok (.aload_n 0, 1) := by decide +kernel
theorem dX4_rest_19 : decode cX4_rest 19 = .ok (.getfield 12, 3) := by decide +kernel
theorem dX4_rest_22 : decode cX4_rest 22 = .ok (.iload_n 1, 1) := by decide +kernel
theorem dX4_rest_23 : decode cX4_rest 23 = .ok (.invokevirtual 87, 3) := by decide +kernel
theorem dX4_rest_26 : decode cX4_rest 26 = .ok (.aload_n 0, 1) := by decide +kernel
theorem dX4_rest_27 : decode cX4_rest 27 = .ok (.getfield 12, 3) := by decide +kernel
theorem dX4_rest_30 : decode cX4_rest 30 = .ok (.invokevirtual 90, 3) := by decide +kernel
theorem dX4_rest_33 : decode cX4_rest 33 = .ok (.ireturn, 1) := by decide +kernel
set_option maxRecDepth 20000 in
theorem ggX4_set_X4_checkSetting : GoodIn wsX4_set wsX4_checkSetting := goodIn_ca (goodIn_r _ [8, 9, 10] (by decide +kernel) (by decide +kernel)) (goodIn_sub (fun _ h => List.mem_cons_of_mem _ (List.mem_append_left _ (List.mem_append_right _ h))) (by decide +kernel))
set_option maxRecDepth 20000 in
theorem gX4_set_X4_checkSetting : GoodIn wsX4_set (va_wsS RX4 94 yX4_checkSetting wsX4_checkSetting) := goodIn_app (goodIn_of _ (by decide +kernel)) ggX4_set_X4_checkSetting
set_option maxRecDepth 20000 in
theorem ggX4_set_X4_checkRange : GoodIn wsX4_set wsX4_checkRange := goodIn_ca (goodIn_r _ [13, 14, 15] (by decide +kernel) (by decide +kernel)) (goodIn_sub (fun _ h => List.mem_cons_of_mem _ (List.mem_append_right _ h)) (by decide +kernel))
set_option maxRecDepth 20000 in
theorem gX4_set_X4_checkRange : GoodIn wsX4_set (va_wsS RX4 35 yX4_checkRange wsX4_checkRange) := goodIn_app (goodIn_of _ (by decide +kernel)) ggX4_set_X4_checkRange
set_option maxRecDepth 20000 in
theorem ggX4_set_X2_push : GoodIn wsX4_set wsX2_push := goodIn_r _ [20, 21, 22, 23, 24, 25, 19, 26, 27, 28, 29, 30, 31, 32, 33, 34, 35, 36, 37, 38, 39, 40, 41, 42, 43, 44, 45, 46, 47, 48, 66, 67, 53, 54, 55, 56, 57, 58, 59, 60, 61, 62, 63, 64, 65] (by decide +kernel) (by decide +kernel)
set_option maxRecDepth 20000 in
theorem gX4_set_X2_push : GoodIn wsX4_set (wsV RX4 50 RX2 yX2_push wsX2_push) := goodIn_app (goodIn_of _ (by decide +kernel)) ggX4_set_X2_push
theorem dX4_set_0 : decode cX4_set 0 = .ok (.iload_n 1, 1) := by decide +kernel
theorem dX4_set_1 : decode cX4_set 1 = .ok (.invokestatic 94, 3) := by decide +kernel
theorem dX4_set_4 : decode cX4_set 4 = .ok (.iload_n 2, 1) := by decide +kernel
theorem dX4_set_5 : decode cX4_set 5 = .ok (.iconst 0, 1) := by decide +kernel
theorem dX4_set_6 : decode cX4_set 6 = .ok (.getstatic 97, 3) := by decide +kernel
theorem dX4_set_9 : decode cX4_set 9 = .ok (.iload_n 1, 1) := by decide +kernel
theorem dX4_set_10 : decode cX4_set 10 = .ok (.iaload, 1) := by decide +kernel
theorem dX4_set_11 : decode cX4_set 11 = .ok (.invokestatic 35, 3) := by decide +kernel
theorem dX4_set_14 : decode cX4_set 14 = .ok (.aload_n 0, 1) := by decide +kernel
theorem dX4_set_15 : decode cX4_set 15 = .ok (.getfield 19, 3) := by decide +kernel
theorem dX4_set_18 : decode cX4_set 18 = .ok (.aload_n 0, 1) := by decide +kernel
theorem dX4_set_19 : decode cX4_set 19 = .ok (.getfield 12, 3) := by decide +kernel
theorem dX4_set_22 : decode cX4_set 22 = .ok (.invokevirtual 50, 3) := by decide +kernel
theorem dX4_set_25 : decode cX4_set 25 = .ok (.aload_n 0, 1) := by decide +kernel
theorem dX4_set_26 : decode cX4_set 26 = .ok (.getfield 12, 3) := by decide +kernel
theorem dX4_set_29 : decode cX4_set 29 = .ok (.getfield 100, 3) := by decide +kernel
theorem dX4_set_32 : decode cX4_set 32 = .ok (.iload_n 1, 1) := by decide +kernel
theorem dX4_set_33 : decode cX4_set 33 = .ok (.iaload, 1) := by decide +kernel
theorem dX4_set_34 : decode cX4_set 34 = .ok (.istore_n 3, 1) := by decide +kernel
theorem dX4_set_35 : decode cX4_set 35 = .ok (.aload_n 0, 1) := by decide +kernel
theorem dX4_set_36 : decode cX4_set 36 = .ok (.getfield 12, 3) := by decide +kernel
theorem dX4_set_39 : decode cX4_set 39 = .ok (.getfield 100, 3) := by decide +kernel
theorem dX4_set_42 : decode cX4_set 42 = .ok (.iload_n 1, 1) := by decide +kernel
theorem dX4_set_43 : decode cX4_set 43 = .ok (.iload_n 2, 1) := by decide +kernel
theorem dX4_set_44 : decode cX4_set 44 = .ok (.iastore, 1) := by decide +kernel
theorem dX4_set_45 : decode cX4_set 45 = .ok (.iload_n 3, 1) := by decide +kernel
theorem dX4_set_46 : decode cX4_set 46 = .ok (.ireturn, 1) := by decide +kernel
set_option maxRecDepth 20000 in
theorem ggX4_wring_X4_checkStack : GoodIn wsX4_wring wsX4_checkStack := goodIn_ca (goodIn_r _ [6, 7, 8] (by decide +kernel) (by decide +kernel)) (goodIn_sub (fun _ h => List.mem_cons_of_mem _ (List.mem_append_right _ h)) (by decide +kernel))
set_option maxRecDepth 20000 in
theorem gX4_wring_X4_checkStack : GoodIn wsX4_wring (va_wsS RX4 103 yX4_checkStack wsX4_checkStack) := goodIn_app (goodIn_of _ (by decide +kernel)) ggX4_wring_X4_checkStack
set_option maxRecDepth 20000 in
theorem ggX4_wring_X4_checkBlock : GoodIn wsX4_wring wsX4_checkBlock := goodIn_ca (goodIn_r _ [12, 7, 8, 2, 13, 14, 15, 16, 17, 18, 112, 113, 114, 115, 116, 117, 118, 119, 120, 121, 122, 123, 124, 125, 126, 127, 128] (by decide +kernel) (by decide +kernel)) (goodIn_sub (fun _ h => List.mem_cons_of_mem _ (List.mem_append_right _ h)) (by decide +kernel))
set_option maxRecDepth 20000 in
theorem gX4_wring_X4_checkBlock : GoodIn wsX4_wring (wsV RX4 58 RX4 yX4_checkBlock wsX4_checkBlock) := goodIn_app (goodIn_of _ (by decide +kernel)) ggX4_wring_X4_checkBlock
set_option maxRecDepth 20000 in
theorem ggX4_wring_X2_push : GoodIn wsX4_wring wsX2_push := goodIn_r _ [23, 24, 25, 26, 27, 28, 22, 29, 30, 31, 32, 16, 33, 34, 35, 36, 37, 38, 39, 40, 41, 42, 43, 44, 45, 18, 46, 47, 48, 49, 129, 130, 116, 117, 118, 119, 120, 121, 122, 123, 124, 125, 126, 127, 128] (by decide +kernel) (by decide +kernel)
set_option maxRecDepth 20000 in
theorem gX4_wring_X2_push : GoodIn wsX4_wring (wsV RX4 50 RX2 yX2_push wsX2_push) := goodIn_app (goodIn_of _ (by decide +kernel)) ggX4_wring_X2_push
set_option maxRecDepth 20000 in
theorem ggX4_wring_X3_tryToWring : GoodIn wsX4_wring wsX3_tryToWring := goodIn_r _ [53, 49, 54, 55, 56, 16, 57, 41, 45, 58, 59, 60, 61, 42, 62, 63, 64, 65, 66, 67, 68, 69, 18, 70, 71, 72, 73, 74, 75, 76, 77, 78, 79, 80, 81, 82, 83, 84, 85, 86, 87, 88, 89, 90, 91, 92, 39, 40, 93, 94, 95, 96, 43, 44, 47, 97, 98, 99, 100, 101, 102, 103, 104, 105, 106, 107, 108, 109, 110, 111, 116, 117, 118, 119, 120, 121, 122, 123, 124, 125, 126, 127, 128] (by decide +kernel) (by decide +kernel)
set_option maxRecDepth 20000 in
theorem gX4_wring_X3_tryToWring : GoodIn wsX4_wring (wsV RX4 106 RX3 yX3_tryToWring wsX3_tryToWring) := goodIn_app (goodIn_of _ (by decide +kernel)) ggX4_wring_X3_tryToWring
theorem dX4_wring_0 : decode cX4_wring 0 = .ok (.iload_n 1, 1) := by decide +kernel
theorem dX4_wring_1 : decode cX4_wring 1 = .ok (.invokestatic 103, 3) := by decide +kernel
theorem dX4_wring_4 : decode cX4_wring 4 = .ok (.aload_n 0, 1) := by decide +kernel
theorem dX4_wring_5 : decode cX4_wring 5 = .ok (.iload_n 2, 1) := by decide +kernel
theorem dX4_wring_6 : decode cX4_wring 6 = .ok (.invokevirtual 58, 3) := by decide +kernel
theorem dX4_wring_9 : decode cX4_wring 9 = .ok (.aload_n 0, 1) := by decide +kernel
theorem dX4_wring_10 : decode cX4_wring 10 = .ok (.getfield 19, 3) := by decide +kernel
theorem dX4_wring_13 : decode cX4_wring 13 = .ok (.aload_n 0, 1) := by decide +kernel
theorem dX4_wring_14 : decode cX4_wring 14 = .ok (.getfield 12, 3) := by decide +kernel
theorem dX4_wring_17 : decode cX4_wring 17 = .ok (.invokevirtual 50, 3) := by decide +kernel
theorem dX4_wring_20 : decode cX4_wring 20 = .ok (.aload_n 0, 1) := by decide +kernel
theorem dX4_wring_21 : decode cX4_wring 21 = .ok (.getfield 12, 3) := by decide +kernel
theorem dX4_wring_24 : decode cX4_wring 24 = .ok (.iload_n 1, 1) := by decide +kernel
theorem dX4_wring_25 : decode cX4_wring 25 = .ok (.iload_n 2, 1) := by decide +kernel
theorem dX4_wring_26 : decode cX4_wring 26 = .ok (.invokevirtual 106, 3) := by decide +kernel
theorem dX4_wring_29 : decode cX4_wring 29 = .ok (.ireturn, 1) := by decide +kernel
set_option maxRecDepth 20000 in
theorem ggX4_takeOff_X4_checkStack : GoodIn wsX4_takeOff wsX4_checkStack := goodIn_ca (goodIn_r _ [8, 9, 10] (by decide +kernel) (by decide +kernel)) (goodIn_sub (fun _ h => List.mem_cons_of_mem _ (List.mem_append_right _ h)) (by decide +kernel))
set_option maxRecDepth 20000 in
theorem gX4_takeOff_X4_checkStack : GoodIn wsX4_takeOff (va_wsS RX4 103 yX4_checkStack wsX4_checkStack) := goodIn_app (goodIn_of _ (by decide +kernel)) ggX4_takeOff_X4_checkStack
set_option maxRecDepth 20000 in
theorem ggX4_takeOff_X3_heightOf : GoodIn wsX4_takeOff wsX3_heightOf := goodIn_r _ [15, 16, 17, 18, 14, 19, 20, 21, 22, 23, 24, 25, 26, 27, 28, 84, 85, 86, 87, 88, 89, 90, 91, 92, 93, 94, 95, 96] (by decide +kernel) (by decide +kernel)
set_option maxRecDepth 20000 in
theorem gX4_takeOff_X3_heightOf : GoodIn wsX4_takeOff (wsV RX4 109 RX3 yX3_heightOf wsX3_heightOf) := goodIn_app (goodIn_of _ (by decide +kernel)) ggX4_takeOff_X3_heightOf
set_option maxRecDepth 20000 in
theorem ggX4_takeOff_X2_push : GoodIn wsX4_takeOff wsX2_push := goodIn_r _ [33, 34, 35, 36, 37, 38, 32, 39, 40, 41, 42, 14, 43, 44, 45, 46, 47, 48, 49, 50, 51, 21, 52, 53, 54, 20, 55, 56, 57, 58, 97, 98, 84, 85, 86, 87, 88, 89, 90, 91, 92, 93, 94, 95, 96] (by decide +kernel) (by decide +kernel)
set_option maxRecDepth 20000 in
theorem gX4_takeOff_X2_push : GoodIn wsX4_takeOff (wsV RX4 50 RX2 yX2_push wsX2_push) := goodIn_app (goodIn_of _ (by decide +kernel)) ggX4_takeOff_X2_push
set_option maxRecDepth 20000 in
theorem ggX4_takeOff_X3_takeTopOff : GoodIn wsX4_takeOff wsX3_takeTopOff := goodIn_r _ [62, 21, 52, 57, 63, 12, 13, 14, 15, 16, 17, 18, 19, 20, 22, 23, 24, 25, 26, 27, 28, 64, 65, 66, 67, 68, 69, 70, 71, 54, 50, 72, 73, 74, 75, 51, 76, 77, 78, 79, 84, 85, 86, 87, 88, 89, 90, 91, 92, 93, 94, 95, 96] (by decide +kernel) (by decide +kernel)
set_option maxRecDepth 20000 in
theorem gX4_takeOff_X3_takeTopOff : GoodIn wsX4_takeOff (wsV RX4 114 RX3 yX3_takeTopOff wsX3_takeTopOff) := goodIn_app (goodIn_of _ (by decide +kernel)) ggX4_takeOff_X3_takeTopOff
theorem dX4_takeOff_0 : decode cX4_takeOff 0 = .ok (.iload_n 1, 1) := by decide +kernel
theorem dX4_takeOff_1 : decode cX4_takeOff 1 = .ok (.invokestatic 103, 3) := by decide +kernel
theorem dX4_takeOff_4 : decode cX4_takeOff 4 = .ok (.aload_n 0, 1) := by decide +kernel
theorem dX4_takeOff_5 : decode cX4_takeOff 5 = .ok (.getfield 12, 3) := by decide +kernel
theorem dX4_takeOff_8 : decode cX4_takeOff 8 = .ok (.iload_n 1, 1) := by decide +kernel
theorem dX4_takeOff_9 : decode cX4_takeOff 9 = .ok (.invokevirtual 109, 3) := by decide +kernel
theorem dX4_takeOff_12 : decode cX4_takeOff 12 = .ok (.ifCond .ne 13, 3) := by decide +kernel
theorem dX4_takeOff_15 : decode cX4_takeOff 15 = .ok (.new 43, 3) := by decide +kernel
theorem dX4_takeOff_18 : decode cX4_takeOff 18 = .ok (.dup, 1) := by decide +kernel
theorem dX4_takeOff_19 : decode cX4_takeOff 19 = .ok (.ldc 112, 2) := by decide +kernel
theorem dX4_takeOff_21 : decode cX4_takeOff 21 = .ok (.invokespecial 47, 3) := by decide +kernel
theorem dX4_takeOff_24 : decode cX4_takeOff 24 = .ok (.athrow, 1) := by decide +kernel
theorem dX4_takeOff_25 : decode cX4_takeOff 25 = .ok (.aload_n 0, 1) := by decide +kernel
theorem dX4_takeOff_26 : decode cX4_takeOff 26 = .ok (.getfield 19, 3) := by decide +kernel
theorem dX4_takeOff_29 : decode cX4_takeOff 29 = .ok (.aload_n 0, 1) := by decide +kernel
theorem dX4_takeOff_30 : decode cX4_takeOff 30 = .ok (.getfield 12, 3) := by decide +kernel
theorem dX4_takeOff_33 : decode cX4_takeOff 33 = .ok (.invokevirtual 50, 3) := by decide +kernel
theorem dX4_takeOff_36 : decode cX4_takeOff 36 = .ok (.aload_n 0, 1) := by decide +kernel
theorem dX4_takeOff_37 : decode cX4_takeOff 37 = .ok (.getfield 12, 3) := by decide +kernel
theorem dX4_takeOff_40 : decode cX4_takeOff 40 = .ok (.iload_n 1, 1) := by decide +kernel
theorem dX4_takeOff_41 : decode cX4_takeOff 41 = .ok (.invokevirtual 114, 3) := by decide +kernel
theorem dX4_takeOff_44 : decode cX4_takeOff 44 = .ok (.ireturn, 1) := by decide +kernel
set_option maxRecDepth 20000 in
theorem ggX4_make_X4_checkStack : GoodIn wsX4_make wsX4_checkStack := goodIn_ca (goodIn_r _ [8, 9, 10] (by decide +kernel) (by decide +kernel)) (goodIn_sub (fun _ h => List.mem_cons_of_mem _ (List.mem_append_left _ (List.mem_append_right _ h))) (by decide +kernel))
set_option maxRecDepth 20000 in
theorem gX4_make_X4_checkStack : GoodIn wsX4_make (va_wsS RX4 103 yX4_checkStack wsX4_checkStack) := goodIn_app (goodIn_of _ (by decide +kernel)) ggX4_make_X4_checkStack
set_option maxRecDepth 20000 in
theorem ggX4_make_X4_checkLength : GoodIn wsX4_make wsX4_checkLength := goodIn_ca (goodIn_r _ [13, 14, 15, 16, 7, 17, 18, 19] (by decide +kernel) (by decide +kernel)) (goodIn_sub (fun _ h => List.mem_cons_of_mem _ (List.mem_append_right _ h)) (by decide +kernel))
set_option maxRecDepth 20000 in
theorem gX4_make_X4_checkLength : GoodIn wsX4_make (va_wsS RX4 117 yX4_checkLength wsX4_checkLength) := goodIn_app (goodIn_of _ (by decide +kernel)) ggX4_make_X4_checkLength
set_option maxRecDepth 20000 in
theorem ggX4_make_X3_heightOf : GoodIn wsX4_make wsX3_heightOf := goodIn_r _ [24, 25, 26, 27, 23, 28, 29, 30, 31, 32, 33, 34, 35, 36, 37, 134, 135, 136, 137, 138, 139, 140, 141, 142, 143, 144, 145, 146] (by decide +kernel) (by decide +kernel)
set_option maxRecDepth 20000 in
theorem gX4_make_X3_heightOf : GoodIn wsX4_make (wsV RX4 109 RX3 yX3_heightOf wsX3_heightOf) := goodIn_app (goodIn_of _ (by decide +kernel)) ggX4_make_X3_heightOf
set_option maxRecDepth 20000 in
theorem ggX4_make_X2_push : GoodIn wsX4_make wsX2_push := goodIn_r _ [42, 43, 44, 45, 46, 47, 41, 48, 49, 50, 51, 23, 52, 53, 54, 55, 56, 57, 58, 59, 60, 30, 61, 62, 63, 29, 64, 65, 66, 67, 147, 148, 134, 135, 136, 137, 138, 139, 140, 141, 142, 143, 144, 145, 146] (by decide +kernel) (by decide +kernel)
set_option maxRecDepth 20000 in
theorem gX4_make_X2_push : GoodIn wsX4_make (wsV RX4 50 RX2 yX2_push wsX2_push) := goodIn_app (goodIn_of _ (by decide +kernel)) ggX4_make_X2_push
set_option maxRecDepth 20000 in
theorem ggX4_make_X0_fewestFor : GoodIn wsX4_make wsX0_fewestFor := goodIn_r _ [71, 72, 73, 26, 27, 23, 28, 29, 30, 74, 75, 70, 76, 77, 134, 135, 136, 137, 138, 139, 140, 141, 142, 143, 144, 145, 146] (by decide +kernel) (by decide +kernel)
set_option maxRecDepth 20000 in
theorem gX4_make_X0_fewestFor : GoodIn wsX4_make (va_wsS RX4 122 yX0_fewestFor wsX0_fewestFor) := goodIn_app (goodIn_of _ (by decide +kernel)) ggX4_make_X0_fewestFor
set_option maxRecDepth 20000 in
theorem ggX4_make_X3_wringSet : GoodIn wsX4_make wsX3_wringSet := goodIn_r _ [81, 29, 82, 83, 84, 23, 85, 67, 86, 87, 88, 89, 60, 63, 90, 91, 92, 93, 30, 94, 21, 22, 24, 25, 26, 27, 28, 31, 32, 33, 34, 35, 36, 37, 95, 96, 97, 98, 99, 100, 101, 102, 103, 104, 105, 106, 107, 108, 109, 110, 58, 59, 111, 112, 113, 114, 61, 62, 65, 115, 116, 117, 118, 119, 120, 121, 122, 123, 124, 125, 126, 127, 128, 129, 134, 135, 136, 137, 138, 139, 140, 141, 142, 143, 144, 145, 146] (by decide +kernel) (by decide +kernel)
set_option maxRecDepth 20000 in
theorem gX4_make_X3_wringSet : GoodIn wsX4_make (wsV RX4 128 RX3 yX3_wringSet wsX3_wringSet) := goodIn_app (goodIn_of _ (by decide +kernel)) ggX4_make_X3_wringSet
theorem dX4_make_0 : decode cX4_make 0 = .ok (.iload_n 1, 1) := by decide +kernel
theorem dX4_make_1 : decode cX4_make 1 = .ok (.invokestatic 103, 3) := by decide +kernel
theorem dX4_make_4 : decode cX4_make 4 = .ok (.iload_n 2, 1) := by decide +kernel
theorem dX4_make_5 : decode cX4_make 5 = .ok (.invokestatic 117, 3) := by decide +kernel
theorem dX4_make_8 : decode cX4_make 8 = .ok (.aload_n 0, 1) := by decide +kernel
theorem dX4_make_9 : decode cX4_make 9 = .ok (.getfield 12, 3) := by decide +kernel
theorem dX4_make_12 : decode cX4_make 12 = .ok (.iload_n 1, 1) := by decide +kernel
theorem dX4_make_13 : decode cX4_make 13 = .ok (.invokevirtual 109, 3) := by decide +kernel
theorem dX4_make_16 : decode cX4_make 16 = .ok (.ifCond .eq 13, 3) := by decide +kernel
theorem dX4_make_19 : decode cX4_make 19 = .ok (.new 43, 3) := by decide +kernel
theorem dX4_make_22 : decode cX4_make 22 = .ok (.dup, 1) := by decide +kernel
theorem dX4_make_23 : decode cX4_make 23 = .ok (.ldc 120, 2) := by decide +kernel
theorem dX4_make_25 : decode cX4_make 25 = .ok (.invokespecial 47, 3) := by decide +kernel
theorem dX4_make_28 : decode cX4_make 28 = .ok (.athrow, 1) := by decide +kernel
theorem dX4_make_29 : decode cX4_make 29 = .ok (.aload_n 0, 1) := by decide +kernel
theorem dX4_make_30 : decode cX4_make 30 = .ok (.getfield 19, 3) := by decide +kernel
theorem dX4_make_33 : decode cX4_make 33 = .ok (.aload_n 0, 1) := by decide +kernel
theorem dX4_make_34 : decode cX4_make 34 = .ok (.getfield 12, 3) := by decide +kernel
theorem dX4_make_37 : decode cX4_make 37 = .ok (.invokevirtual 50, 3) := by decide +kernel
theorem dX4_make_40 : decode cX4_make 40 = .ok (.aload_n 0, 1) := by decide +kernel
theorem dX4_make_41 : decode cX4_make 41 = .ok (.getfield 12, 3) := by decide +kernel
theorem dX4_make_44 : decode cX4_make 44 = .ok (.iload_n 2, 1) := by decide +kernel
theorem dX4_make_45 : decode cX4_make 45 = .ok (.invokestatic 122, 3) := by decide +kernel
theorem dX4_make_48 : decode cX4_make 48 = .ok (.istore_n 3, 1) := by decide +kernel
theorem dX4_make_49 : decode cX4_make 49 = .ok (.iload_n 3, 1) := by decide +kernel
theorem dX4_make_50 : decode cX4_make 50 = .ok (.ifCond .ne 7, 3) := by decide +kernel
theorem dX4_make_53 : decode cX4_make 53 = .ok (.iconst (-1), 1) := by decide +kernel
theorem dX4_make_54 : decode cX4_make 54 = .ok (.goto 12, 3) := by decide +kernel
theorem dX4_make_57 : decode cX4_make 57 = .ok (.aload_n 0, 1) := by decide +kernel
theorem dX4_make_58 : decode cX4_make 58 = .ok (.getfield 12, 3) := by decide +kernel
theorem dX4_make_61 : decode cX4_make 61 = .ok (.iload_n 1, 1) := by decide +kernel
theorem dX4_make_62 : decode cX4_make 62 = .ok (.iload_n 3, 1) := by decide +kernel
theorem dX4_make_63 : decode cX4_make 63 = .ok (.invokevirtual 128, 3) := by decide +kernel
theorem dX4_make_66 : decode cX4_make 66 = .ok (.ireturn, 1) := by decide +kernel
set_option maxRecDepth 20000 in
theorem ggX4_blockOf_X4_checkBlock : GoodIn wsX4_blockOf wsX4_checkBlock := goodIn_ca (goodIn_r _ [14, 15, 16, 3, 17, 18, 19, 20, 21, 22, 51, 52, 53, 54, 55, 56, 57, 58, 59, 60, 61, 62, 63, 64, 65, 66, 67] (by decide +kernel) (by decide +kernel)) (goodIn_sub (fun _ h => List.mem_cons_of_mem _ (List.mem_append_right _ h)) (by decide +kernel))
set_option maxRecDepth 20000 in
theorem gX4_blockOf_X4_checkBlock : GoodIn wsX4_blockOf (wsV RX4 58 RX4 yX4_checkBlock wsX4_checkBlock) := goodIn_app (goodIn_of _ (by decide +kernel)) ggX4_blockOf_X4_checkBlock
set_option maxRecDepth 20000 in
theorem ggX4_blockOf_X3_errorOf : GoodIn wsX4_blockOf wsX3_errorOf := goodIn_r _ [26, 27, 28, 55, 56, 57, 58, 59, 60, 61, 62, 63, 64, 65, 66, 67] (by decide +kernel) (by decide +kernel)
set_option maxRecDepth 20000 in
theorem gX4_blockOf_X3_errorOf : GoodIn wsX4_blockOf (wsV RX4 189 RX3 yX3_errorOf wsX3_errorOf) := goodIn_app (goodIn_of _ (by decide +kernel)) ggX4_blockOf_X3_errorOf
set_option maxRecDepth 20000 in
theorem ggX4_blockOf_X3_gradeOf : GoodIn wsX4_blockOf wsX3_gradeOf := goodIn_r _ [32, 33, 34, 35, 20, 36, 37, 38, 39, 40, 41, 24, 25, 26, 27, 28, 55, 56, 57, 58, 59, 60, 61, 62, 63, 64, 65, 66, 67] (by decide +kernel) (by decide +kernel)
set_option maxRecDepth 20000 in
theorem gX4_blockOf_X3_gradeOf : GoodIn wsX4_blockOf (wsV RX4 75 RX3 yX3_gradeOf wsX3_gradeOf) := goodIn_app (goodIn_of _ (by decide +kernel)) ggX4_blockOf_X3_gradeOf
set_option maxRecDepth 20000 in
theorem ggX4_blockOf_X3_trueLengthOf : GoodIn wsX4_blockOf wsX3_trueLengthOf := goodIn_r _ [45, 46, 47, 27, 28, 48, 49, 20, 50, 55, 56, 57, 58, 59, 60, 61, 62, 63, 64, 65, 66, 67] (by decide +kernel) (by decide +kernel)
set_option maxRecDepth 20000 in
theorem gX4_blockOf_X3_trueLengthOf : GoodIn wsX4_blockOf (wsV RX4 195 RX3 yX3_trueLengthOf wsX3_trueLengthOf) := goodIn_app (goodIn_of _ (by decide +kernel)) ggX4_blockOf_X3_trueLengthOf
theorem dX4_blockOf_0 : decode cX4_blockOf 0 = .ok (.aload_n 0, 1) := by decide +kernel
theorem dX4_blockOf_1 : decode cX4_blockOf 1 = .ok (.iload_n 1, 1) := by decide +kernel
theorem dX4_blockOf_2 : decode cX4_blockOf 2 = .ok (.invokevirtual 58, 3) := by decide +kernel
theorem dX4_blockOf_5 : decode cX4_blockOf 5 = .ok (.iload_n 2, 1) := by decide +kernel
theorem dX4_blockOf_6 : decode cX4_blockOf 6 = .ok (.tableswitch 142 0 8 #[50, 60, 73, 83, 93, 102, 112, 122, 132], 50) := by decide +kernel
theorem dX4_blockOf_56 : decode cX4_blockOf 56 = .ok (.aload_n 0, 1) := by decide +kernel
theorem dX4_blockOf_57 : decode cX4_blockOf 57 = .ok (.getfield 12, 3) := by decide +kernel
theorem dX4_blockOf_60 : decode cX4_blockOf 60 = .ok (.getfield 186, 3) := by decide +kernel
theorem dX4_blockOf_63 : decode cX4_blockOf 63 = .ok (.iload_n 1, 1) := by decide +kernel
theorem dX4_blockOf_64 : decode cX4_blockOf 64 = .ok (.iaload, 1) := by decide +kernel
theorem dX4_blockOf_65 : decode cX4_blockOf 65 = .ok (.ireturn, 1) := by decide +kernel
theorem dX4_blockOf_66 : decode cX4_blockOf 66 = .ok (.aload_n 0, 1) := by decide +kernel
theorem dX4_blockOf_67 : decode cX4_blockOf 67 = .ok (.getfield 12, 3) := by decide +kernel
theorem dX4_blockOf_70 : decode cX4_blockOf 70 = .ok (.iload_n 1, 1) := by decide +kernel
theorem dX4_blockOf_71 : decode cX4_blockOf 71 = .ok (.invokevirtual 189, 3) := by decide +kernel
theorem dX4_blockOf_74 : decode cX4_blockOf 74 = .ok (.sipush 10000, 3) := by decide +kernel
theorem dX4_blockOf_77 : decode cX4_blockOf 77 = .ok (.iadd, 1) := by decide +kernel
theorem dX4_blockOf_78 : decode cX4_blockOf 78 = .ok (.ireturn, 1) := by decide +kernel
theorem dX4_blockOf_79 : decode cX4_blockOf 79 = .ok (.aload_n 0, 1) := by decide +kernel
theorem dX4_blockOf_80 : decode cX4_blockOf 80 = .ok (.getfield 12, 3) := by decide +kernel
theorem dX4_blockOf_83 : decode cX4_blockOf 83 = .ok (.getfield 192, 3) := by decide +kernel
theorem dX4_blockOf_86 : decode cX4_blockOf 86 = .ok (.iload_n 1, 1) := by decide +kernel
theorem dX4_blockOf_87 : decode cX4_blockOf 87 = .ok (.iaload, 1) := by decide +kernel
theorem dX4_blockOf_88 : decode cX4_blockOf 88 = .ok (.ireturn, 1) := by decide +kernel
theorem dX4_blockOf_89 : decode cX4_blockOf 89 = .ok (.aload_n 0, 1) := by decide +kernel
theorem dX4_blockOf_90 : decode cX4_blockOf 90 = .ok (.getfield 12, 3) := by decide +kernel
theorem dX4_blockOf_93 : decode cX4_blockOf 93 = .ok (.getfield 83, 3) := by decide +kernel
theorem dX4_blockOf_96 : decode cX4_blockOf 96 = .ok (.iload_n 1, 1) := by decide +kernel
theorem dX4_blockOf_97 : decode cX4_blockOf 97 = .ok (.iaload, 1) := by decide +kernel
theorem dX4_blockOf_98 : decode cX4_blockOf 98 = .ok (.ireturn, 1) := by decide +kernel
theorem dX4_blockOf_99 : decode cX4_blockOf 99 = .ok (.aload_n 0, 1) := by decide +kernel
theorem dX4_blockOf_100 : decode cX4_blockOf 100 = .ok (.getfield 12, 3) := by decide +kernel
theorem dX4_blockOf_103 : decode cX4_blockOf 103 = .ok (.iload_n 1, 1) := by decide +kernel
theorem dX4_blockOf_104 : decode cX4_blockOf 104 = .ok (.invokevirtual 75, 3) := by decide +kernel
theorem dX4_blockOf_107 : decode cX4_blockOf 107 = .ok (.ireturn, 1) := by decide +kernel
theorem dX4_blockOf_108 : decode cX4_blockOf 108 = .ok (.aload_n 0, 1) := by decide +kernel
theorem dX4_blockOf_109 : decode cX4_blockOf 109 = .ok (.getfield 12, 3) := by decide +kernel
theorem dX4_blockOf_112 : decode cX4_blockOf 112 = .ok (.iload_n 1, 1) := by decide +kernel
theorem dX4_blockOf_113 : decode cX4_blockOf 113 = .ok (.iconst 0, 1) := by decide +kernel
theorem dX4_blockOf_114 : decode cX4_blockOf 114 = .ok (.invokevirtual 195, 3) := by decide +kernel
theorem dX4_blockOf_117 : decode cX4_blockOf 117 = .ok (.ireturn, 1) := by decide +kernel
theorem dX4_blockOf_118 : decode cX4_blockOf 118 = .ok (.aload_n 0, 1) := by decide +kernel
theorem dX4_blockOf_119 : decode cX4_blockOf 119 = .ok (.getfield 12, 3) := by decide +kernel
theorem dX4_blockOf_122 : decode cX4_blockOf 122 = .ok (.getfield 198, 3) := by decide +kernel
theorem dX4_blockOf_125 : decode cX4_blockOf 125 = .ok (.iload_n 1, 1) := by decide +kernel
theorem dX4_blockOf_126 : decode cX4_blockOf 126 = .ok (.iaload, 1) := by decide +kernel
theorem dX4_blockOf_127 : decode cX4_blockOf 127 = .ok (.ireturn, 1) := by decide +kernel
theorem dX4_blockOf_128 : decode cX4_blockOf 128 = .ok (.aload_n 0, 1) := by decide +kernel
theorem dX4_blockOf_129 : decode cX4_blockOf 129 = .ok (.getfield 12, 3) := by decide +kernel
theorem dX4_blockOf_132 : decode cX4_blockOf 132 = .ok (.getfield 201, 3) := by decide +kernel
theorem dX4_blockOf_135 : decode cX4_blockOf 135 = .ok (.iload_n 1, 1) := by decide +kernel
theorem dX4_blockOf_136 : decode cX4_blockOf 136 = .ok (.iaload, 1) := by decide +kernel
theorem dX4_blockOf_137 : decode cX4_blockOf 137 = .ok (.ireturn, 1) := by decide +kernel
theorem dX4_blockOf_138 : decode cX4_blockOf 138 = .ok (.aload_n 0, 1) := by decide +kernel
theorem dX4_blockOf_139 : decode cX4_blockOf 139 = .ok (.getfield 12, 3) := by decide +kernel
theorem dX4_blockOf_142 : decode cX4_blockOf 142 = .ok (.getfield 204, 3) := by decide +kernel
theorem dX4_blockOf_145 : decode cX4_blockOf 145 = .ok (.iload_n 1, 1) := by decide +kernel
theorem dX4_blockOf_146 : decode cX4_blockOf 146 = .ok (.iaload, 1) := by decide +kernel
theorem dX4_blockOf_147 : decode cX4_blockOf 147 = .ok (.ireturn, 1) := by decide +kernel
theorem dX4_blockOf_148 : decode cX4_blockOf 148 = .ok (.new 145, 3) := by decide +kernel
theorem dX4_blockOf_151 : decode cX4_blockOf 151 = .ok (.dup, 1) := by decide +kernel
theorem dX4_blockOf_152 : decode cX4_blockOf 152 = .ok (.ldc 207, 2) := by decide +kernel
theorem dX4_blockOf_154 : decode cX4_blockOf 154 = .ok (.invokespecial 149, 3) := by decide +kernel
theorem dX4_blockOf_157 : decode cX4_blockOf 157 = .ok (.athrow, 1) := by decide +kernel
set_option maxRecDepth 20000 in
theorem ggX4_stackOf_X4_checkStack : GoodIn wsX4_stackOf wsX4_checkStack := goodIn_ca (goodIn_r _ [7, 8, 9] (by decide +kernel) (by decide +kernel)) (goodIn_sub (fun _ h => List.mem_cons_of_mem _ (List.mem_append_right _ h)) (by decide +kernel))
set_option maxRecDepth 20000 in
theorem gX4_stackOf_X4_checkStack : GoodIn wsX4_stackOf (va_wsS RX4 103 yX4_checkStack wsX4_checkStack) := goodIn_app (goodIn_of _ (by decide +kernel)) ggX4_stackOf_X4_checkStack
set_option maxRecDepth 20000 in
theorem ggX4_stackOf_X3_heightOf : GoodIn wsX4_stackOf wsX3_heightOf := goodIn_r _ [14, 15, 16, 17, 13, 18, 19, 20, 21, 22, 23, 24, 25, 26, 27, 87, 88, 89, 90, 91, 92, 93, 94, 95, 96, 97, 98, 99] (by decide +kernel) (by decide +kernel)
set_option maxRecDepth 20000 in
theorem gX4_stackOf_X3_heightOf : GoodIn wsX4_stackOf (wsV RX4 109 RX3 yX3_heightOf wsX3_heightOf) := goodIn_app (goodIn_of _ (by decide +kernel)) ggX4_stackOf_X3_heightOf
set_option maxRecDepth 20000 in
theorem ggX4_stackOf_X3_blocksIn : GoodIn wsX4_stackOf wsX3_blocksIn := goodIn_r _ [18, 19, 20, 87, 88, 89, 90, 91, 92, 93, 94, 95, 96, 97, 98, 99] (by decide +kernel) (by decide +kernel)
set_option maxRecDepth 20000 in
theorem gX4_stackOf_X3_blocksIn : GoodIn wsX4_stackOf (wsV RX4 209 RX3 yX3_blocksIn wsX3_blocksIn) := goodIn_app (goodIn_of _ (by decide +kernel)) ggX4_stackOf_X3_blocksIn
set_option maxRecDepth 20000 in
theorem ggX4_stackOf_X3_nominalOfSet : GoodIn wsX4_stackOf wsX3_nominalOfSet := goodIn_r _ [32, 19, 33, 87, 88, 89, 90, 91, 92, 93, 94, 95, 96, 97, 98, 99] (by decide +kernel) (by decide +kernel)
set_option maxRecDepth 20000 in
theorem gX4_stackOf_X3_nominalOfSet : GoodIn wsX4_stackOf (wsV RX4 212 RX3 yX3_nominalOfSet wsX3_nominalOfSet) := goodIn_app (goodIn_of _ (by decide +kernel)) ggX4_stackOf_X3_nominalOfSet
set_option maxRecDepth 20000 in
theorem ggX4_stackOf_X3_trueLengthOfStack : GoodIn wsX4_stackOf wsX3_trueLengthOfStack := goodIn_r _ [37, 19, 20, 38, 39, 40, 41, 13, 42, 43, 33, 44, 45, 46, 47, 48, 87, 88, 89, 90, 91, 92, 93, 94, 95, 96, 97, 98, 99] (by decide +kernel) (by decide +kernel)
set_option maxRecDepth 20000 in
theorem gX4_stackOf_X3_trueLengthOfStack : GoodIn wsX4_stackOf (wsV RX4 215 RX3 yX3_trueLengthOfStack wsX3_trueLengthOfStack) := goodIn_app (goodIn_of _ (by decide +kernel)) ggX4_stackOf_X3_trueLengthOfStack
set_option maxRecDepth 20000 in
theorem ggX4_stackOf_X3_blockAt : GoodIn wsX4_stackOf wsX3_blockAt := goodIn_r _ [52, 19, 20, 53, 87, 88, 89, 90, 91, 92, 93, 94, 95, 96, 97, 98, 99] (by decide +kernel) (by decide +kernel)
set_option maxRecDepth 20000 in
theorem gX4_stackOf_X3_blockAt : GoodIn wsX4_stackOf (wsV RX4 218 RX3 yX3_blockAt wsX3_blockAt) := goodIn_app (goodIn_of _ (by decide +kernel)) ggX4_stackOf_X3_blockAt
set_option maxRecDepth 20000 in
theorem ggX4_stackOf_X3_greatestGradeIn : GoodIn wsX4_stackOf wsX3_greatestGradeIn := goodIn_r _ [57, 19, 20, 58, 59, 60, 61, 62, 63, 64, 13, 65, 66, 67, 68, 69, 70, 71, 72, 73, 74, 75, 76, 44, 45, 87, 88, 89, 90, 91, 92, 93, 94, 95, 96, 97, 98, 99] (by decide +kernel) (by decide +kernel)
set_option maxRecDepth 20000 in
theorem gX4_stackOf_X3_greatestGradeIn : GoodIn wsX4_stackOf (wsV RX4 221 RX3 yX3_greatestGradeIn wsX3_greatestGradeIn) := goodIn_app (goodIn_of _ (by decide +kernel)) ggX4_stackOf_X3_greatestGradeIn
set_option maxRecDepth 20000 in
theorem ggX4_stackOf_X3_sizeOfDifference : GoodIn wsX4_stackOf wsX3_sizeOfDifference := goodIn_r _ [80, 70, 71, 60, 72, 81, 35, 36, 13, 37, 19, 20, 38, 39, 40, 41, 42, 43, 33, 44, 45, 46, 47, 48, 15, 16, 17, 18, 82, 30, 31, 32, 87, 88, 89, 90, 91, 92, 93, 94, 95, 96, 97, 98, 99] (by decide +kernel) (by decide +kernel)
set_option maxRecDepth 20000 in
theorem gX4_stackOf_X3_sizeOfDifference : GoodIn wsX4_stackOf (wsV RX4 224 RX3 yX3_sizeOfDifference wsX3_sizeOfDifference) := goodIn_app (goodIn_of _ (by decide +kernel)) ggX4_stackOf_X3_sizeOfDifference
theorem dX4_stackOf_0 : decode cX4_stackOf 0 = .ok (.iload_n 1, 1) := by decide +kernel
theorem dX4_stackOf_1 : decode cX4_stackOf 1 = .ok (.invokestatic 103, 3) := by decide +kernel
theorem dX4_stackOf_4 : decode cX4_stackOf 4 = .ok (.iload_n 2, 1) := by decide +kernel
theorem dX4_stackOf_5 : decode cX4_stackOf 5 = .ok (.tableswitch 124 0 6 #[43, 52, 68, 78, 87, 106, 115], 43) := by decide +kernel
theorem dX4_stackOf_48 : decode cX4_stackOf 48 = .ok (.aload_n 0, 1) := by decide +kernel
theorem dX4_stackOf_49 : decode cX4_stackOf 49 = .ok (.getfield 12, 3) := by decide +kernel
theorem dX4_stackOf_52 : decode cX4_stackOf 52 = .ok (.iload_n 1, 1) := by decide +kernel
theorem dX4_stackOf_53 : decode cX4_stackOf 53 = .ok (.invokevirtual 109, 3) := by decide +kernel
theorem dX4_stackOf_56 : decode cX4_stackOf 56 = .ok (.ireturn, 1) := by decide +kernel
theorem dX4_stackOf_57 : decode cX4_stackOf 57 = .ok (.aload_n 0, 1) := by decide +kernel
theorem dX4_stackOf_58 : decode cX4_stackOf 58 = .ok (.getfield 12, 3) := by decide +kernel
theorem dX4_stackOf_61 : decode cX4_stackOf 61 = .ok (.aload_n 0, 1) := by decide +kernel
theorem dX4_stackOf_62 : decode cX4_stackOf 62 = .ok (.getfield 12, 3) := by decide +kernel
theorem dX4_stackOf_65 : decode cX4_stackOf 65 = .ok (.iload_n 1, 1) := by decide +kernel
theorem dX4_stackOf_66 : decode cX4_stackOf 66 = .ok (.invokevirtual 209, 3) := by decide +kernel
theorem dX4_stackOf_69 : decode cX4_stackOf 69 = .ok (.invokevirtual 212, 3) := by decide +kernel
theorem dX4_stackOf_72 : decode cX4_stackOf 72 = .ok (.ireturn, 1) := by decide +kernel
theorem dX4_stackOf_73 : decode cX4_stackOf 73 = .ok (.aload_n 0, 1) := by decide +kernel
theorem dX4_stackOf_74 : decode cX4_stackOf 74 = .ok (.getfield 12, 3) := by decide +kernel
theorem dX4_stackOf_77 : decode cX4_stackOf 77 = .ok (.iload_n 1, 1) := by decide +kernel
theorem dX4_stackOf_78 : decode cX4_stackOf 78 = .ok (.iconst 0, 1) := by decide +kernel
theorem dX4_stackOf_79 : decode cX4_stackOf 79 = .ok (.invokevirtual 215, 3) := by decide +kernel
theorem dX4_stackOf_82 : decode cX4_stackOf 82 = .ok (.ireturn, 1) := by decide +kernel
theorem dX4_stackOf_83 : decode cX4_stackOf 83 = .ok (.aload_n 0, 1) := by decide +kernel
theorem dX4_stackOf_84 : decode cX4_stackOf 84 = .ok (.getfield 12, 3) := by decide +kernel
theorem dX4_stackOf_87 : decode cX4_stackOf 87 = .ok (.iload_n 1, 1) := by decide +kernel
theorem dX4_stackOf_88 : decode cX4_stackOf 88 = .ok (.invokevirtual 209, 3) := by decide +kernel
theorem dX4_stackOf_91 : decode cX4_stackOf 91 = .ok (.ireturn, 1) := by decide +kernel
theorem dX4_stackOf_92 : decode cX4_stackOf 92 = .ok (.aload_n 0, 1) := by decide +kernel
theorem dX4_stackOf_93 : decode cX4_stackOf 93 = .ok (.getfield 12, 3) := by decide +kernel
theorem dX4_stackOf_96 : decode cX4_stackOf 96 = .ok (.iload_n 1, 1) := by decide +kernel
theorem dX4_stackOf_97 : decode cX4_stackOf 97 = .ok (.aload_n 0, 1) := by decide +kernel
theorem dX4_stackOf_98 : decode cX4_stackOf 98 = .ok (.getfield 12, 3) := by decide +kernel
theorem dX4_stackOf_101 : decode cX4_stackOf 101 = .ok (.iload_n 1, 1) := by decide +kernel
theorem dX4_stackOf_102 : decode cX4_stackOf 102 = .ok (.invokevirtual 109, 3) := by decide +kernel
theorem dX4_stackOf_105 : decode cX4_stackOf 105 = .ok (.iconst 1, 1) := by decide +kernel
theorem dX4_stackOf_106 : decode cX4_stackOf 106 = .ok (.isub, 1) := by decide +kernel
theorem dX4_stackOf_107 : decode cX4_stackOf 107 = .ok (.invokevirtual 218, 3) := by decide +kernel
theorem dX4_stackOf_110 : decode cX4_stackOf 110 = .ok (.ireturn, 1) := by decide +kernel
theorem dX4_stackOf_111 : decode cX4_stackOf 111 = .ok (.aload_n 0, 1) := by decide +kernel
theorem dX4_stackOf_112 : decode cX4_stackOf 112 = .ok (.getfield 12, 3) := by decide +kernel
theorem dX4_stackOf_115 : decode cX4_stackOf 115 = .ok (.iload_n 1, 1) := by decide +kernel
theorem dX4_stackOf_116 : decode cX4_stackOf 116 = .ok (.invokevirtual 221, 3) := by decide +kernel
theorem dX4_stackOf_119 : decode cX4_stackOf 119 = .ok (.ireturn, 1) := by decide +kernel
theorem dX4_stackOf_120 : decode cX4_stackOf 120 = .ok (.aload_n 0, 1) := by decide +kernel
theorem dX4_stackOf_121 : decode cX4_stackOf 121 = .ok (.getfield 12, 3) := by decide +kernel
theorem dX4_stackOf_124 : decode cX4_stackOf 124 = .ok (.iload_n 1, 1) := by decide +kernel
theorem dX4_stackOf_125 : decode cX4_stackOf 125 = .ok (.invokevirtual 224, 3) := by decide +kernel
theorem dX4_stackOf_128 : decode cX4_stackOf 128 = .ok (.ireturn, 1) := by decide +kernel
theorem dX4_stackOf_129 : decode cX4_stackOf 129 = .ok (.new 145, 3) := by decide +kernel
theorem dX4_stackOf_132 : decode cX4_stackOf 132 = .ok (.dup, 1) := by decide +kernel
theorem dX4_stackOf_133 : decode cX4_stackOf 133 = .ok (.ldc 227, 2) := by decide +kernel
theorem dX4_stackOf_135 : decode cX4_stackOf 135 = .ok (.invokespecial 149, 3) := by decide +kernel
theorem dX4_stackOf_138 : decode cX4_stackOf 138 = .ok (.athrow, 1) := by decide +kernel
set_option maxRecDepth 20000 in
theorem ggX4_ranked_X4_checkRange : GoodIn wsX4_ranked wsX4_checkRange := goodIn_ca (goodIn_r _ [5, 6, 7] (by decide +kernel) (by decide +kernel)) (goodIn_sub (fun _ h => List.mem_cons_of_mem _ (List.mem_append_right _ h)) (by decide +kernel))
set_option maxRecDepth 20000 in
theorem gX4_ranked_X4_checkRange : GoodIn wsX4_ranked (va_wsS RX4 35 yX4_checkRange wsX4_checkRange) := goodIn_app (goodIn_of _ (by decide +kernel)) ggX4_ranked_X4_checkRange
set_option maxRecDepth 20000 in
theorem ggX4_ranked_X4_checkLeast : GoodIn wsX4_ranked wsX4_checkLeast := goodIn_ca (goodIn_r _ [10, 6, 7] (by decide +kernel) (by decide +kernel)) (goodIn_sub (fun _ h => List.mem_cons_of_mem _ (List.mem_append_right _ h)) (by decide +kernel))
set_option maxRecDepth 20000 in
theorem gX4_ranked_X4_checkLeast : GoodIn wsX4_ranked (va_wsS RX4 229 yX4_checkLeast wsX4_checkLeast) := goodIn_app (goodIn_of _ (by decide +kernel)) ggX4_ranked_X4_checkLeast
set_option maxRecDepth 20000 in
theorem ggX4_ranked_X0_blockOfRank : GoodIn wsX4_ranked wsX0_blockOfRank := goodIn_r _ [14, 15, 16, 17, 13, 18, 19, 20, 21, 22, 23, 24, 25, 26, 27, 28, 29, 30, 31, 32, 33, 34, 35, 36, 37, 38, 43, 44, 45, 46, 47, 48, 49, 50, 51, 52, 53, 54, 55] (by decide +kernel) (by decide +kernel)
set_option maxRecDepth 20000 in
theorem gX4_ranked_X0_blockOfRank : GoodIn wsX4_ranked (va_wsS RX4 232 yX0_blockOfRank wsX0_blockOfRank) := goodIn_app (goodIn_of _ (by decide +kernel)) ggX4_ranked_X0_blockOfRank
theorem dX4_ranked_0 : decode cX4_ranked 0 = .ok (.iload_n 1, 1) := by decide +kernel
theorem dX4_ranked_1 : decode cX4_ranked 1 = .ok (.iconst 0, 1) := by decide +kernel
theorem dX4_ranked_2 : decode cX4_ranked 2 = .ok (.iconst 2, 1) := by decide +kernel
theorem dX4_ranked_3 : decode cX4_ranked 3 = .ok (.invokestatic 35, 3) := by decide +kernel
theorem dX4_ranked_6 : decode cX4_ranked 6 = .ok (.iload_n 2, 1) := by decide +kernel
theorem dX4_ranked_7 : decode cX4_ranked 7 = .ok (.iconst 0, 1) := by decide +kernel
theorem dX4_ranked_8 : decode cX4_ranked 8 = .ok (.invokestatic 229, 3) := by decide +kernel
theorem dX4_ranked_11 : decode cX4_ranked 11 = .ok (.aload_n 0, 1) := by decide +kernel
theorem dX4_ranked_12 : decode cX4_ranked 12 = .ok (.getfield 12, 3) := by decide +kernel
theorem dX4_ranked_15 : decode cX4_ranked 15 = .ok (.iload_n 1, 1) := by decide +kernel
theorem dX4_ranked_16 : decode cX4_ranked 16 = .ok (.iload_n 2, 1) := by decide +kernel
theorem dX4_ranked_17 : decode cX4_ranked 17 = .ok (.invokestatic 232, 3) := by decide +kernel
theorem dX4_ranked_20 : decode cX4_ranked 20 = .ok (.ireturn, 1) := by decide +kernel
set_option maxRecDepth 20000 in
theorem ggX4_lengths_X4_checkLeast : GoodIn wsX4_lengths wsX4_checkLeast := goodIn_ca (goodIn_r _ [5, 6, 7] (by decide +kernel) (by decide +kernel)) (goodIn_sub (fun _ h => List.mem_cons_of_mem _ (List.mem_append_right _ h)) (by decide +kernel))
set_option maxRecDepth 20000 in
theorem gX4_lengths_X4_checkLeast : GoodIn wsX4_lengths (va_wsS RX4 229 yX4_checkLeast wsX4_checkLeast) := goodIn_app (goodIn_of _ (by decide +kernel)) ggX4_lengths_X4_checkLeast
set_option maxRecDepth 20000 in
theorem ggX4_lengths_X0_differentLengths : GoodIn wsX4_lengths wsX0_differentLengths := goodIn_r _ [11, 12, 13, 10, 14, 15, 16, 17, 18, 19, 20, 21, 22, 23, 24, 25, 31, 32, 33, 34, 35, 36, 37, 38, 39, 40, 41, 42, 43] (by decide +kernel) (by decide +kernel)
set_option maxRecDepth 20000 in
theorem gX4_lengths_X0_differentLengths : GoodIn wsX4_lengths (va_wsS RX4 236 yX0_differentLengths wsX0_differentLengths) := goodIn_app (goodIn_of _ (by decide +kernel)) ggX4_lengths_X0_differentLengths
set_option maxRecDepth 20000 in
theorem ggX4_lengths_X0_lengthOfRank : GoodIn wsX4_lengths wsX0_lengthOfRank := goodIn_r _ [14, 15, 16, 10, 17, 18, 19, 20, 21, 22, 23, 24, 25, 31, 32, 33, 34, 35, 36, 37, 38, 39, 40, 41, 42, 43] (by decide +kernel) (by decide +kernel)
set_option maxRecDepth 20000 in
theorem gX4_lengths_X0_lengthOfRank : GoodIn wsX4_lengths (va_wsS RX4 240 yX0_lengthOfRank wsX0_lengthOfRank) := goodIn_app (goodIn_of _ (by decide +kernel)) ggX4_lengths_X0_lengthOfRank
theorem dX4_lengths_0 : decode cX4_lengths 0 = .ok (.iload_n 1, 1) := by decide +kernel
theorem dX4_lengths_1 : decode cX4_lengths 1 = .ok (.iconst (-1), 1) := by decide +kernel
theorem dX4_lengths_2 : decode cX4_lengths 2 = .ok (.invokestatic 229, 3) := by decide +kernel
theorem dX4_lengths_5 : decode cX4_lengths 5 = .ok (.iload_n 1, 1) := by decide +kernel
theorem dX4_lengths_6 : decode cX4_lengths 6 = .ok (.iconst (-1), 1) := by decide +kernel
theorem dX4_lengths_7 : decode cX4_lengths 7 = .ok (.if_icmp .ne 13, 3) := by decide +kernel
theorem dX4_lengths_10 : decode cX4_lengths 10 = .ok (.aload_n 0, 1) := by decide +kernel
theorem dX4_lengths_11 : decode cX4_lengths 11 = .ok (.getfield 12, 3) := by decide +kernel
theorem dX4_lengths_14 : decode cX4_lengths 14 = .ok (.invokestatic 236, 3) := by decide +kernel
theorem dX4_lengths_17 : decode cX4_lengths 17 = .ok (.goto 11, 3) := by decide +kernel
theorem dX4_lengths_20 : decode cX4_lengths 20 = .ok (.aload_n 0, 1) := by decide +kernel
theorem dX4_lengths_21 : decode cX4_lengths 21 = .ok (.getfield 12, 3) := by decide +kernel
theorem dX4_lengths_24 : decode cX4_lengths 24 = .ok (.iload_n 1, 1) := by decide +kernel
theorem dX4_lengths_25 : decode cX4_lengths 25 = .ok (.invokestatic 240, 3) := by decide +kernel
theorem dX4_lengths_28 : decode cX4_lengths 28 = .ok (.ireturn, 1) := by decide +kernel
set_option maxRecDepth 20000 in
theorem ggX4_count_X3_blocksIn : GoodIn wsX4_count wsX3_blocksIn := goodIn_r _ [17, 18, 19, 50, 51, 52, 53, 54, 55, 56, 57, 58, 59, 60, 61, 62] (by decide +kernel) (by decide +kernel)
set_option maxRecDepth 20000 in
theorem gX4_count_X3_blocksIn : GoodIn wsX4_count (wsV RX4 209 RX3 yX3_blocksIn wsX3_blocksIn) := goodIn_app (goodIn_of _ (by decide +kernel)) ggX4_count_X3_blocksIn
set_option maxRecDepth 20000 in
theorem ggX4_count_X3_wearOfAll : GoodIn wsX4_count wsX3_wearOfAll := goodIn_r _ [23, 18, 24, 50, 51, 52, 53, 54, 55, 56, 57, 58, 59, 60, 61, 62] (by decide +kernel) (by decide +kernel)
set_option maxRecDepth 20000 in
theorem gX4_count_X3_wearOfAll : GoodIn wsX4_count (wsV RX4 252 RX3 yX3_wearOfAll wsX3_wearOfAll) := goodIn_app (goodIn_of _ (by decide +kernel)) ggX4_count_X3_wearOfAll
set_option maxRecDepth 20000 in
theorem ggX4_count_X3_blocksOfGrade : GoodIn wsX4_count wsX3_blocksOfGrade := goodIn_r _ [28, 18, 29, 30, 31, 16, 32, 33, 34, 35, 36, 37, 38, 39, 40, 41, 42, 43, 44, 45, 24, 50, 51, 52, 53, 54, 55, 56, 57, 58, 59, 60, 61, 62] (by decide +kernel) (by decide +kernel)
set_option maxRecDepth 20000 in
theorem gX4_count_X3_blocksOfGrade : GoodIn wsX4_count (wsV RX4 258 RX3 yX3_blocksOfGrade wsX3_blocksOfGrade) := goodIn_app (goodIn_of _ (by decide +kernel)) ggX4_count_X3_blocksOfGrade
theorem dX4_count_0 : decode cX4_count 0 = .ok (.iload_n 1, 1) := by decide +kernel
theorem dX4_count_1 : decode cX4_count 1 = .ok (.tableswitch 137 0 9 #[55, 63, 72, 80, 88, 96, 104, 112, 121, 129], 55) := by decide +kernel
theorem dX4_count_56 : decode cX4_count 56 = .ok (.aload_n 0, 1) := by decide +kernel
theorem dX4_count_57 : decode cX4_count 57 = .ok (.getfield 12, 3) := by decide +kernel
theorem dX4_count_60 : decode cX4_count 60 = .ok (.getfield 68, 3) := by decide +kernel
theorem dX4_count_63 : decode cX4_count 63 = .ok (.ireturn, 1) := by decide +kernel
theorem dX4_count_64 : decode cX4_count 64 = .ok (.aload_n 0, 1) := by decide +kernel
theorem dX4_count_65 : decode cX4_count 65 = .ok (.getfield 12, 3) := by decide +kernel
theorem dX4_count_68 : decode cX4_count 68 = .ok (.iconst (-1), 1) := by decide +kernel
theorem dX4_count_69 : decode cX4_count 69 = .ok (.invokevirtual 209, 3) := by decide +kernel
theorem dX4_count_72 : decode cX4_count 72 = .ok (.ireturn, 1) := by decide +kernel
theorem dX4_count_73 : decode cX4_count 73 = .ok (.aload_n 0, 1) := by decide +kernel
theorem dX4_count_74 : decode cX4_count 74 = .ok (.getfield 12, 3) := by decide +kernel
theorem dX4_count_77 : decode cX4_count 77 = .ok (.getfield 243, 3) := by decide +kernel
theorem dX4_count_80 : decode cX4_count 80 = .ok (.ireturn, 1) := by decide +kernel
theorem dX4_count_81 : decode cX4_count 81 = .ok (.aload_n 0, 1) := by decide +kernel
theorem dX4_count_82 : decode cX4_count 82 = .ok (.getfield 12, 3) := by decide +kernel
theorem dX4_count_85 : decode cX4_count 85 = .ok (.getfield 246, 3) := by decide +kernel
theorem dX4_count_88 : decode cX4_count 88 = .ok (.ireturn, 1) := by decide +kernel
theorem dX4_count_89 : decode cX4_count 89 = .ok (.aload_n 0, 1) := by decide +kernel
theorem dX4_count_90 : decode cX4_count 90 = .ok (.getfield 12, 3) := by decide +kernel
theorem dX4_count_93 : decode cX4_count 93 = .ok (.getfield 249, 3) := by decide +kernel
theorem dX4_count_96 : decode cX4_count 96 = .ok (.ireturn, 1) := by decide +kernel
theorem dX4_count_97 : decode cX4_count 97 = .ok (.aload_n 0, 1) := by decide +kernel
theorem dX4_count_98 : decode cX4_count 98 = .ok (.getfield 12, 3) := by decide +kernel
theorem dX4_count_101 : decode cX4_count 101 = .ok (.invokevirtual 252, 3) := by decide +kernel
theorem dX4_count_104 : decode cX4_count 104 = .ok (.ireturn, 1) := by decide +kernel
theorem dX4_count_105 : decode cX4_count 105 = .ok (.aload_n 0, 1) := by decide +kernel
theorem dX4_count_106 : decode cX4_count 106 = .ok (.getfield 12, 3) := by decide +kernel
theorem dX4_count_109 : decode cX4_count 109 = .ok (.getfield 255, 3) := by decide +kernel
theorem dX4_count_112 : decode cX4_count 112 = .ok (.ireturn, 1) := by decide +kernel
theorem dX4_count_113 : decode cX4_count 113 = .ok (.aload_n 0, 1) := by decide +kernel
theorem dX4_count_114 : decode cX4_count 114 = .ok (.getfield 12, 3) := by decide +kernel
theorem dX4_count_117 : decode cX4_count 117 = .ok (.iconst 3, 1) := by decide +kernel
theorem dX4_count_118 : decode cX4_count 118 = .ok (.invokevirtual 258, 3) := by decide +kernel
theorem dX4_count_121 : decode cX4_count 121 = .ok (.ireturn, 1) := by decide +kernel
theorem dX4_count_122 : decode cX4_count 122 = .ok (.aload_n 0, 1) := by decide +kernel
theorem dX4_count_123 : decode cX4_count 123 = .ok (.getfield 19, 3) := by decide +kernel
theorem dX4_count_126 : decode cX4_count 126 = .ok (.getfield 173, 3) := by decide +kernel
theorem dX4_count_129 : decode cX4_count 129 = .ok (.ireturn, 1) := by decide +kernel
theorem dX4_count_130 : decode cX4_count 130 = .ok (.aload_n 0, 1) := by decide +kernel
theorem dX4_count_131 : decode cX4_count 131 = .ok (.getfield 30, 3) := by decide +kernel
theorem dX4_count_134 : decode cX4_count 134 = .ok (.getfield 131, 3) := by decide +kernel
theorem dX4_count_137 : decode cX4_count 137 = .ok (.ireturn, 1) := by decide +kernel
theorem dX4_count_138 : decode cX4_count 138 = .ok (.new 145, 3) := by decide +kernel
theorem dX4_count_141 : decode cX4_count 141 = .ok (.dup, 1) := by decide +kernel
theorem dX4_count_142 : decode cX4_count 142 = .ok (.ldc_w 261, 3) := by decide +kernel
theorem dX4_count_145 : decode cX4_count 145 = .ok (.invokespecial 149, 3) := by decide +kernel
theorem dX4_count_148 : decode cX4_count 148 = .ok (.athrow, 1) := by decide +kernel
set_option maxRecDepth 20000 in
theorem ggX4_setting_X4_checkSetting : GoodIn wsX4_setting wsX4_checkSetting := goodIn_ca (goodIn_r _ [6, 7, 8] (by decide +kernel) (by decide +kernel)) (goodIn_sub (fun _ h => List.mem_cons_of_mem _ (List.mem_append_right _ h)) (by decide +kernel))
set_option maxRecDepth 20000 in
theorem gX4_setting_X4_checkSetting : GoodIn wsX4_setting (va_wsS RX4 94 yX4_checkSetting wsX4_checkSetting) := goodIn_app (goodIn_of _ (by decide +kernel)) ggX4_setting_X4_checkSetting
theorem dX4_setting_0 : decode cX4_setting 0 = .ok (.iload_n 1, 1) := by decide +kernel
theorem dX4_setting_1 : decode cX4_setting 1 = .ok (.invokestatic 94, 3) := by decide +kernel
theorem dX4_setting_4 : decode cX4_setting 4 = .ok (.aload_n 0, 1) := by decide +kernel
theorem dX4_setting_5 : decode cX4_setting 5 = .ok (.getfield 12, 3) := by decide +kernel
theorem dX4_setting_8 : decode cX4_setting 8 = .ok (.getfield 100, 3) := by decide +kernel
theorem dX4_setting_11 : decode cX4_setting 11 = .ok (.iload_n 1, 1) := by decide +kernel
theorem dX4_setting_12 : decode cX4_setting 12 = .ok (.iaload, 1) := by decide +kernel
theorem dX4_setting_13 : decode cX4_setting 13 = .ok (.ireturn, 1) := by decide +kernel
set_option maxRecDepth 20000 in
theorem ggX4_refusal_X4_checkStack : GoodIn wsX4_refusal wsX4_checkStack := goodIn_ca (goodIn_r _ [5, 6, 7] (by decide +kernel) (by decide +kernel)) (goodIn_sub (fun _ h => List.mem_cons_of_mem _ (List.mem_append_right _ h)) (by decide +kernel))
set_option maxRecDepth 20000 in
theorem gX4_refusal_X4_checkStack : GoodIn wsX4_refusal (va_wsS RX4 103 yX4_checkStack wsX4_checkStack) := goodIn_app (goodIn_of _ (by decide +kernel)) ggX4_refusal_X4_checkStack
set_option maxRecDepth 20000 in
theorem ggX4_refusal_X4_checkBlock : GoodIn wsX4_refusal wsX4_checkBlock := goodIn_ca (goodIn_r _ [11, 6, 7, 1, 12, 13, 14, 15, 16, 17, 62, 63, 64, 65, 66, 67, 68, 69, 70, 71, 72, 73, 74, 75, 76, 77, 78] (by decide +kernel) (by decide +kernel)) (goodIn_sub (fun _ h => List.mem_cons_of_mem _ (List.mem_append_right _ h)) (by decide +kernel))
set_option maxRecDepth 20000 in
theorem gX4_refusal_X4_checkBlock : GoodIn wsX4_refusal (wsV RX4 58 RX4 yX4_checkBlock wsX4_checkBlock) := goodIn_app (goodIn_of _ (by decide +kernel)) ggX4_refusal_X4_checkBlock
set_option maxRecDepth 20000 in
theorem ggX4_refusal_X3_reasonToRefuse : GoodIn wsX4_refusal wsX3_reasonToRefuse := goodIn_r _ [21, 22, 23, 24, 25, 26, 15, 27, 28, 29, 30, 31, 32, 33, 34, 35, 36, 17, 37, 38, 39, 40, 41, 42, 43, 44, 45, 46, 47, 48, 49, 50, 51, 52, 53, 54, 55, 56, 57, 58, 59, 60, 61, 66, 67, 68, 69, 70, 71, 72, 73, 74, 75, 76, 77, 78] (by decide +kernel) (by decide +kernel)
set_option maxRecDepth 20000 in
theorem gX4_refusal_X3_reasonToRefuse : GoodIn wsX4_refusal (wsV RX4 263 RX3 yX3_reasonToRefuse wsX3_reasonToRefuse) := goodIn_app (goodIn_of _ (by decide +kernel)) ggX4_refusal_X3_reasonToRefuse
theorem dX4_refusal_0 : decode cX4_refusal 0 = .ok (.iload_n 1, 1) := by decide +kernel
theorem dX4_refusal_1 : decode cX4_refusal 1 = .ok (.invokestatic 103, 3) := by decide +kernel
theorem dX4_refusal_4 : decode cX4_refusal 4 = .ok (.aload_n 0, 1) := by decide +kernel
theorem dX4_refusal_5 : decode cX4_refusal 5 = .ok (.iload_n 2, 1) := by decide +kernel
theorem dX4_refusal_6 : decode cX4_refusal 6 = .ok (.invokevirtual 58, 3) := by decide +kernel
theorem dX4_refusal_9 : decode cX4_refusal 9 = .ok (.aload_n 0, 1) := by decide +kernel
theorem dX4_refusal_10 : decode cX4_refusal 10 = .ok (.getfield 12, 3) := by decide +kernel
theorem dX4_refusal_13 : decode cX4_refusal 13 = .ok (.iload_n 1, 1) := by decide +kernel
theorem dX4_refusal_14 : decode cX4_refusal 14 = .ok (.iload_n 2, 1) := by decide +kernel
theorem dX4_refusal_15 : decode cX4_refusal 15 = .ok (.invokevirtual 263, 3) := by decide +kernel
theorem dX4_refusal_18 : decode cX4_refusal 18 = .ok (.ireturn, 1) := by decide +kernel
set_option maxRecDepth 20000 in
theorem ggX4_fewest_X4_checkLength : GoodIn wsX4_fewest wsX4_checkLength := goodIn_ca (goodIn_r _ [5, 6, 7, 8, 4, 9, 10, 11] (by decide +kernel) (by decide +kernel)) (goodIn_sub (fun _ h => List.mem_cons_of_mem _ (List.mem_append_right _ h)) (by decide +kernel))
set_option maxRecDepth 20000 in
theorem gX4_fewest_X4_checkLength : GoodIn wsX4_fewest (va_wsS RX4 117 yX4_checkLength wsX4_checkLength) := goodIn_app (goodIn_of _ (by decide +kernel)) ggX4_fewest_X4_checkLength
set_option maxRecDepth 20000 in
theorem ggX4_fewest_X4_checkRange : GoodIn wsX4_fewest wsX4_checkRange := goodIn_ca (goodIn_r _ [9, 10, 11] (by decide +kernel) (by decide +kernel)) (goodIn_sub (fun _ h => List.mem_cons_of_mem _ (List.mem_append_right _ h)) (by decide +kernel))
set_option maxRecDepth 20000 in
theorem gX4_fewest_X4_checkRange : GoodIn wsX4_fewest (va_wsS RX4 35 yX4_checkRange wsX4_checkRange) := goodIn_app (goodIn_of _ (by decide +kernel)) ggX4_fewest_X4_checkRange
set_option maxRecDepth 20000 in
theorem ggX4_fewest_X0_fewestFor : GoodIn wsX4_fewest wsX0_fewestFor := goodIn_r _ [15, 16, 17, 18, 19, 20, 21, 22, 23, 24, 25, 14, 26, 27, 39, 40, 41, 42, 43, 44, 45, 46, 47, 48, 49, 50, 51] (by decide +kernel) (by decide +kernel)
set_option maxRecDepth 20000 in
theorem gX4_fewest_X0_fewestFor : GoodIn wsX4_fewest (va_wsS RX4 122 yX0_fewestFor wsX0_fewestFor) := goodIn_app (goodIn_of _ (by decide +kernel)) ggX4_fewest_X0_fewestFor
set_option maxRecDepth 20000 in
theorem ggX4_fewest_J6_bitCount_0f7a4 : GoodIn wsX4_fewest wsJ6_bitCount_0f7a4 := goodIn_r _ [31, 32, 33, 34] (by decide +kernel) (by decide +kernel)
set_option maxRecDepth 20000 in
theorem gX4_fewest_J6_bitCount_0f7a4 : GoodIn wsX4_fewest (va_wsS RX4 266 yJ6_bitCount_0f7a4 wsJ6_bitCount_0f7a4) := goodIn_app (goodIn_of _ (by decide +kernel)) ggX4_fewest_J6_bitCount_0f7a4
theorem dX4_fewest_0 : decode cX4_fewest 0 = .ok (.iload_n 1, 1) := by decide +kernel
theorem dX4_fewest_1 : decode cX4_fewest 1 = .ok (.invokestatic 117, 3) := by decide +kernel
theorem dX4_fewest_4 : decode cX4_fewest 4 = .ok (.iload_n 2, 1) := by decide +kernel
theorem dX4_fewest_5 : decode cX4_fewest 5 = .ok (.iconst 0, 1) := by decide +kernel
theorem dX4_fewest_6 : decode cX4_fewest 6 = .ok (.iconst 1, 1) := by decide +kernel
theorem dX4_fewest_7 : decode cX4_fewest 7 = .ok (.invokestatic 35, 3) := by decide +kernel
theorem dX4_fewest_10 : decode cX4_fewest 10 = .ok (.aload_n 0, 1) := by decide +kernel
theorem dX4_fewest_11 : decode cX4_fewest 11 = .ok (.getfield 12, 3) := by decide +kernel
theorem dX4_fewest_14 : decode cX4_fewest 14 = .ok (.iload_n 1, 1) := by decide +kernel
theorem dX4_fewest_15 : decode cX4_fewest 15 = .ok (.invokestatic 122, 3) := by decide +kernel
theorem dX4_fewest_18 : decode cX4_fewest 18 = .ok (.istore_n 3, 1) := by decide +kernel
theorem dX4_fewest_19 : decode cX4_fewest 19 = .ok (.iload_n 3, 1) := by decide +kernel
theorem dX4_fewest_20 : decode cX4_fewest 20 = .ok (.ifCond .ne 5, 3) := by decide +kernel
theorem dX4_fewest_23 : decode cX4_fewest 23 = .ok (.iconst (-1), 1) := by decide +kernel
theorem dX4_fewest_24 : decode cX4_fewest 24 = .ok (.ireturn, 1) := by decide +kernel
theorem dX4_fewest_25 : decode cX4_fewest 25 = .ok (.iload_n 2, 1) := by decide +kernel
theorem dX4_fewest_26 : decode cX4_fewest 26 = .ok (.ifCond .ne 10, 3) := by decide +kernel
theorem dX4_fewest_29 : decode cX4_fewest 29 = .ok (.iload_n 3, 1) := by decide +kernel
theorem dX4_fewest_30 : decode cX4_fewest 30 = .ok (.invokestatic 266, 3) := by decide +kernel
theorem dX4_fewest_33 : decode cX4_fewest 33 = .ok (.goto 4, 3) := by decide +kernel
theorem dX4_fewest_36 : decode cX4_fewest 36 = .ok (.iload_n 3, 1) := by decide +kernel
theorem dX4_fewest_37 : decode cX4_fewest 37 = .ok (.ireturn, 1) := by decide +kernel
set_option maxRecDepth 20000 in
theorem ggX4_oldWay_X4_checkLength : GoodIn wsX4_oldWay wsX4_checkLength := goodIn_ca (goodIn_r _ [5, 6, 7, 8, 4, 9, 10, 11] (by decide +kernel) (by decide +kernel)) (goodIn_sub (fun _ h => List.mem_cons_of_mem _ (List.mem_append_right _ h)) (by decide +kernel))
set_option maxRecDepth 20000 in
theorem gX4_oldWay_X4_checkLength : GoodIn wsX4_oldWay (va_wsS RX4 117 yX4_checkLength wsX4_checkLength) := goodIn_app (goodIn_of _ (by decide +kernel)) ggX4_oldWay_X4_checkLength
set_option maxRecDepth 20000 in
theorem ggX4_oldWay_X4_checkRange : GoodIn wsX4_oldWay wsX4_checkRange := goodIn_ca (goodIn_r _ [9, 10, 11] (by decide +kernel) (by decide +kernel)) (goodIn_sub (fun _ h => List.mem_cons_of_mem _ (List.mem_append_right _ h)) (by decide +kernel))
set_option maxRecDepth 20000 in
theorem gX4_oldWay_X4_checkRange : GoodIn wsX4_oldWay (va_wsS RX4 35 yX4_checkRange wsX4_checkRange) := goodIn_app (goodIn_of _ (by decide +kernel)) ggX4_oldWay_X4_checkRange
set_option maxRecDepth 20000 in
theorem ggX4_oldWay_X0_takenByOldWay : GoodIn wsX4_oldWay wsX0_takenByOldWay := goodIn_r _ [15, 16, 17, 18, 14, 19, 20, 21, 22, 23, 24, 25, 26, 27, 28, 29, 47, 48, 49, 50, 51, 52, 53, 54, 55, 56, 57, 58, 59] (by decide +kernel) (by decide +kernel)
set_option maxRecDepth 20000 in
theorem gX4_oldWay_X0_takenByOldWay : GoodIn wsX4_oldWay (va_wsS RX4 271 yX0_takenByOldWay wsX0_takenByOldWay) := goodIn_app (goodIn_of _ (by decide +kernel)) ggX4_oldWay_X0_takenByOldWay
set_option maxRecDepth 20000 in
theorem ggX4_oldWay_X3_nominalOfSet : GoodIn wsX4_oldWay wsX3_nominalOfSet := goodIn_r _ [33, 34, 35, 47, 48, 49, 50, 51, 52, 53, 54, 55, 56, 57, 58, 59] (by decide +kernel) (by decide +kernel)
set_option maxRecDepth 20000 in
theorem gX4_oldWay_X3_nominalOfSet : GoodIn wsX4_oldWay (wsV RX4 212 RX3 yX3_nominalOfSet wsX3_nominalOfSet) := goodIn_app (goodIn_of _ (by decide +kernel)) ggX4_oldWay_X3_nominalOfSet
set_option maxRecDepth 20000 in
theorem ggX4_oldWay_J6_bitCount_0f7a4 : GoodIn wsX4_oldWay wsJ6_bitCount_0f7a4 := goodIn_r _ [39, 40, 41, 42] (by decide +kernel) (by decide +kernel)
set_option maxRecDepth 20000 in
theorem gX4_oldWay_J6_bitCount_0f7a4 : GoodIn wsX4_oldWay (va_wsS RX4 266 yJ6_bitCount_0f7a4 wsJ6_bitCount_0f7a4) := goodIn_app (goodIn_of _ (by decide +kernel)) ggX4_oldWay_J6_bitCount_0f7a4
theorem dX4_oldWay_0 : decode cX4_oldWay 0 = .ok (.iload_n 1, 1) := by decide +kernel
theorem dX4_oldWay_1 : decode cX4_oldWay 1 = .ok (.invokestatic 117, 3) := by decide +kernel
theorem dX4_oldWay_4 : decode cX4_oldWay 4 = .ok (.iload_n 2, 1) := by decide +kernel
theorem dX4_oldWay_5 : decode cX4_oldWay 5 = .ok (.iconst 0, 1) := by decide +kernel
theorem dX4_oldWay_6 : decode cX4_oldWay 6 = .ok (.iconst 2, 1) := by decide +kernel
theorem dX4_oldWay_7 : decode cX4_oldWay 7 = .ok (.invokestatic 35, 3) := by decide +kernel
theorem dX4_oldWay_10 : decode cX4_oldWay 10 = .ok (.aload_n 0, 1) := by decide +kernel
theorem dX4_oldWay_11 : decode cX4_oldWay 11 = .ok (.getfield 12, 3) := by decide +kernel
theorem dX4_oldWay_14 : decode cX4_oldWay 14 = .ok (.iload_n 1, 1) := by decide +kernel
theorem dX4_oldWay_15 : decode cX4_oldWay 15 = .ok (.invokestatic 271, 3) := by decide +kernel
theorem dX4_oldWay_18 : decode cX4_oldWay 18 = .ok (.istore_n 3, 1) := by decide +kernel
theorem dX4_oldWay_19 : decode cX4_oldWay 19 = .ok (.iload_n 1, 1) := by decide +kernel
theorem dX4_oldWay_20 : decode cX4_oldWay 20 = .ok (.aload_n 0, 1) := by decide +kernel
theorem dX4_oldWay_21 : decode cX4_oldWay 21 = .ok (.getfield 12, 3) := by decide +kernel
theorem dX4_oldWay_24 : decode cX4_oldWay 24 = .ok (.iload_n 3, 1) := by decide +kernel
theorem dX4_oldWay_25 : decode cX4_oldWay 25 = .ok (.invokevirtual 212, 3) := by decide +kernel
theorem dX4_oldWay_28 : decode cX4_oldWay 28 = .ok (.isub, 1) := by decide +kernel
theorem dX4_oldWay_29 : decode cX4_oldWay 29 = .ok (.istore 4, 2) := by decide +kernel
theorem dX4_oldWay_31 : decode cX4_oldWay 31 = .ok (.iload_n 2, 1) := by decide +kernel
theorem dX4_oldWay_32 : decode cX4_oldWay 32 = .ok (.iconst 2, 1) := by decide +kernel
theorem dX4_oldWay_33 : decode cX4_oldWay 33 = .ok (.if_icmp .ne 6, 3) := by decide +kernel
theorem dX4_oldWay_36 : decode cX4_oldWay 36 = .ok (.iload 4, 2) := by decide +kernel
theorem dX4_oldWay_38 : decode cX4_oldWay 38 = .ok (.ireturn, 1) := by decide +kernel
theorem dX4_oldWay_39 : decode cX4_oldWay 39 = .ok (.iload 4, 2) := by decide +kernel
theorem dX4_oldWay_41 : decode cX4_oldWay 41 = .ok (.ifCond .eq 5, 3) := by decide +kernel
theorem dX4_oldWay_44 : decode cX4_oldWay 44 = .ok (.iconst (-1), 1) := by decide +kernel
theorem dX4_oldWay_45 : decode cX4_oldWay 45 = .ok (.ireturn, 1) := by decide +kernel
theorem dX4_oldWay_46 : decode cX4_oldWay 46 = .ok (.iload_n 2, 1) := by decide +kernel
theorem dX4_oldWay_47 : decode cX4_oldWay 47 = .ok (.ifCond .ne 10, 3) := by decide +kernel
theorem dX4_oldWay_50 : decode cX4_oldWay 50 = .ok (.iload_n 3, 1) := by decide +kernel
theorem dX4_oldWay_51 : decode cX4_oldWay 51 = .ok (.invokestatic 266, 3) := by decide +kernel
theorem dX4_oldWay_54 : decode cX4_oldWay 54 = .ok (.goto 4, 3) := by decide +kernel
theorem dX4_oldWay_57 : decode cX4_oldWay 57 = .ok (.iload_n 3, 1) := by decide +kernel
theorem dX4_oldWay_58 : decode cX4_oldWay 58 = .ok (.ireturn, 1) := by decide +kernel
set_option maxRecDepth 20000 in
theorem ggX4_nearest_X4_checkLength : GoodIn wsX4_nearest wsX4_checkLength := goodIn_ca (goodIn_r _ [5, 6, 7, 8, 4, 9, 10, 11] (by decide +kernel) (by decide +kernel)) (goodIn_sub (fun _ h => List.mem_cons_of_mem _ (List.mem_append_right _ h)) (by decide +kernel))
set_option maxRecDepth 20000 in
theorem gX4_nearest_X4_checkLength : GoodIn wsX4_nearest (va_wsS RX4 117 yX4_checkLength wsX4_checkLength) := goodIn_app (goodIn_of _ (by decide +kernel)) ggX4_nearest_X4_checkLength
set_option maxRecDepth 20000 in
theorem ggX4_nearest_X0_nearestTo : GoodIn wsX4_nearest wsX0_nearestTo := goodIn_r _ [15, 16, 17, 18, 19, 20, 21, 22, 23, 24, 25, 14, 26, 27, 28, 29, 30, 31, 32, 33, 38, 39, 40, 41, 42, 43, 44, 45, 46, 47, 48, 49, 50] (by decide +kernel) (by decide +kernel)
set_option maxRecDepth 20000 in
theorem gX4_nearest_X0_nearestTo : GoodIn wsX4_nearest (va_wsS RX4 274 yX0_nearestTo wsX0_nearestTo) := goodIn_app (goodIn_of _ (by decide +kernel)) ggX4_nearest_X0_nearestTo
theorem dX4_nearest_0 : decode cX4_nearest 0 = .ok (.iload_n 1, 1) := by decide +kernel
theorem dX4_nearest_1 : decode cX4_nearest 1 = .ok (.invokestatic 117, 3) := by decide +kernel
theorem dX4_nearest_4 : decode cX4_nearest 4 = .ok (.aload_n 0, 1) := by decide +kernel
theorem dX4_nearest_5 : decode cX4_nearest 5 = .ok (.getfield 12, 3) := by decide +kernel
theorem dX4_nearest_8 : decode cX4_nearest 8 = .ok (.iload_n 1, 1) := by decide +kernel
theorem dX4_nearest_9 : decode cX4_nearest 9 = .ok (.invokestatic 274, 3) := by decide +kernel
theorem dX4_nearest_12 : decode cX4_nearest 12 = .ok (.ireturn, 1) := by decide +kernel
set_option maxRecDepth 20000 in
theorem ggX4_coolIn_X4_checkBlock : GoodIn wsX4_coolIn wsX4_checkBlock := goodIn_ca (goodIn_r _ [6, 7, 8, 1, 9, 10, 11, 12, 13, 14, 24, 25, 26, 27, 28, 29, 30, 31, 32, 33, 34, 35, 36, 37, 38, 39, 40] (by decide +kernel) (by decide +kernel)) (goodIn_sub (fun _ h => List.mem_cons_of_mem _ (List.mem_append_right _ h)) (by decide +kernel))
set_option maxRecDepth 20000 in
theorem gX4_coolIn_X4_checkBlock : GoodIn wsX4_coolIn (wsV RX4 58 RX4 yX4_checkBlock wsX4_checkBlock) := goodIn_app (goodIn_of _ (by decide +kernel)) ggX4_coolIn_X4_checkBlock
set_option maxRecDepth 20000 in
theorem ggX4_coolIn_X3_minutesUntilCool : GoodIn wsX4_coolIn wsX3_minutesUntilCool := goodIn_r _ [18, 19, 20, 21, 22, 12, 23, 28, 29, 30, 31, 32, 33, 34, 35, 36, 37, 38, 39, 40] (by decide +kernel) (by decide +kernel)
set_option maxRecDepth 20000 in
theorem gX4_coolIn_X3_minutesUntilCool : GoodIn wsX4_coolIn (wsV RX4 277 RX3 yX3_minutesUntilCool wsX3_minutesUntilCool) := goodIn_app (goodIn_of _ (by decide +kernel)) ggX4_coolIn_X3_minutesUntilCool
theorem dX4_coolIn_0 : decode cX4_coolIn 0 = .ok (.aload_n 0, 1) := by decide +kernel
theorem dX4_coolIn_1 : decode cX4_coolIn 1 = .ok (.iload_n 1, 1) := by decide +kernel
theorem dX4_coolIn_2 : decode cX4_coolIn 2 = .ok (.invokevirtual 58, 3) := by decide +kernel
theorem dX4_coolIn_5 : decode cX4_coolIn 5 = .ok (.aload_n 0, 1) := by decide +kernel
theorem dX4_coolIn_6 : decode cX4_coolIn 6 = .ok (.getfield 12, 3) := by decide +kernel
theorem dX4_coolIn_9 : decode cX4_coolIn 9 = .ok (.iload_n 1, 1) := by decide +kernel
theorem dX4_coolIn_10 : decode cX4_coolIn 10 = .ok (.invokevirtual 277, 3) := by decide +kernel
theorem dX4_coolIn_13 : decode cX4_coolIn 13 = .ok (.ireturn, 1) := by decide +kernel
set_option maxRecDepth 20000 in
theorem ggX4_lengthIn_X4_checkStack : GoodIn wsX4_lengthIn wsX4_checkStack := goodIn_ca (goodIn_r _ [5, 6, 7] (by decide +kernel) (by decide +kernel)) (goodIn_sub (fun _ h => List.mem_cons_of_mem _ (List.mem_append_left _ (List.mem_append_right _ h))) (by decide +kernel))
set_option maxRecDepth 20000 in
theorem gX4_lengthIn_X4_checkStack : GoodIn wsX4_lengthIn (va_wsS RX4 103 yX4_checkStack wsX4_checkStack) := goodIn_app (goodIn_of _ (by decide +kernel)) ggX4_lengthIn_X4_checkStack
set_option maxRecDepth 20000 in
theorem ggX4_lengthIn_X4_checkRange : GoodIn wsX4_lengthIn wsX4_checkRange := goodIn_ca (goodIn_r _ [10, 11, 12] (by decide +kernel) (by decide +kernel)) (goodIn_sub (fun _ h => List.mem_cons_of_mem _ (List.mem_append_right _ h)) (by decide +kernel))
set_option maxRecDepth 20000 in
theorem gX4_lengthIn_X4_checkRange : GoodIn wsX4_lengthIn (va_wsS RX4 35 yX4_checkRange wsX4_checkRange) := goodIn_app (goodIn_of _ (by decide +kernel)) ggX4_lengthIn_X4_checkRange
set_option maxRecDepth 20000 in
theorem ggX4_lengthIn_X3_trueLengthOfStack : GoodIn wsX4_lengthIn wsX3_trueLengthOfStack := goodIn_r _ [17, 18, 19, 20, 21, 22, 23, 16, 24, 25, 26, 27, 28, 29, 30, 31, 36, 37, 38, 39, 40, 41, 42, 43, 44, 45, 46, 47, 48] (by decide +kernel) (by decide +kernel)
set_option maxRecDepth 20000 in
theorem gX4_lengthIn_X3_trueLengthOfStack : GoodIn wsX4_lengthIn (wsV RX4 215 RX3 yX3_trueLengthOfStack wsX3_trueLengthOfStack) := goodIn_app (goodIn_of _ (by decide +kernel)) ggX4_lengthIn_X3_trueLengthOfStack
theorem dX4_lengthIn_0 : decode cX4_lengthIn 0 = .ok (.iload_n 1, 1) := by decide +kernel
theorem dX4_lengthIn_1 : decode cX4_lengthIn 1 = .ok (.invokestatic 103, 3) := by decide +kernel
theorem dX4_lengthIn_4 : decode cX4_lengthIn 4 = .ok (.iload_n 2, 1) := by decide +kernel
theorem dX4_lengthIn_5 : decode cX4_lengthIn 5 = .ok (.iconst 0, 1) := by decide +kernel
theorem dX4_lengthIn_6 : decode cX4_lengthIn 6 = .ok (.sipush 600, 3) := by decide +kernel
theorem dX4_lengthIn_9 : decode cX4_lengthIn 9 = .ok (.invokestatic 35, 3) := by decide +kernel
theorem dX4_lengthIn_12 : decode cX4_lengthIn 12 = .ok (.aload_n 0, 1) := by decide +kernel
theorem dX4_lengthIn_13 : decode cX4_lengthIn 13 = .ok (.getfield 12, 3) := by decide +kernel
theorem dX4_lengthIn_16 : decode cX4_lengthIn 16 = .ok (.iload_n 1, 1) := by decide +kernel
theorem dX4_lengthIn_17 : decode cX4_lengthIn 17 = .ok (.iload_n 2, 1) := by decide +kernel
theorem dX4_lengthIn_18 : decode cX4_lengthIn 18 = .ok (.invokevirtual 215, 3) := by decide +kernel
theorem dX4_lengthIn_21 : decode cX4_lengthIn 21 = .ok (.ireturn, 1) := by decide +kernel
set_option maxRecDepth 20000 in
theorem ggX4_meanError_X3_sizesOfErrors : GoodIn wsX4_meanError wsX3_sizesOfErrors := goodIn_r _ [7, 8, 9, 10, 11, 6, 12, 13, 14, 15, 16, 17, 18, 19, 20, 21, 22, 27, 28, 29, 30, 31, 32, 33, 34, 35, 36, 37, 38, 39] (by decide +kernel) (by decide +kernel)
set_option maxRecDepth 20000 in
theorem gX4_meanError_X3_sizesOfErrors : GoodIn wsX4_meanError (wsV RX4 280 RX3 yX3_sizesOfErrors wsX3_sizesOfErrors) := goodIn_app (goodIn_of _ (by decide +kernel)) ggX4_meanError_X3_sizesOfErrors
theorem dX4_meanError_0 : decode cX4_meanError 0 = .ok (.aload_n 0, 1) := by decide +kernel
theorem dX4_meanError_1 : decode cX4_meanError 1 = .ok (.getfield 12, 3) := by decide +kernel
theorem dX4_meanError_4 : decode cX4_meanError 4 = .ok (.getfield 68, 3) := by decide +kernel
theorem dX4_meanError_7 : decode cX4_meanError 7 = .ok (.ifCond .ne 5, 3) := by decide +kernel
theorem dX4_meanError_10 : decode cX4_meanError 10 = .ok (.dconst 0, 1) := by decide +kernel
theorem dX4_meanError_11 : decode cX4_meanError 11 = .ok (.dreturn, 1) := by decide +kernel
theorem dX4_meanError_12 : decode cX4_meanError 12 = .ok (.aload_n 0, 1) := by decide +kernel
theorem dX4_meanError_13 : decode cX4_meanError 13 = .ok (.getfield 12, 3) := by decide +kernel
theorem dX4_meanError_16 : decode cX4_meanError 16 = .ok (.invokevirtual 280, 3) := by decide +kernel
theorem dX4_meanError_19 : decode cX4_meanError 19 = .ok (.i2d, 1) := by decide +kernel
theorem dX4_meanError_20 : decode cX4_meanError 20 = .ok (.aload_n 0, 1) := by decide +kernel
theorem dX4_meanError_21 : decode cX4_meanError 21 = .ok (.getfield 12, 3) := by decide +kernel
theorem dX4_meanError_24 : decode cX4_meanError 24 = .ok (.getfield 68, 3) := by decide +kernel
theorem dX4_meanError_27 : decode cX4_meanError 27 = .ok (.i2d, 1) := by decide +kernel
theorem dX4_meanError_28 : decode cX4_meanError 28 = .ok (.ddiv, 1) := by decide +kernel
theorem dX4_meanError_29 : decode cX4_meanError 29 = .ok (.dreturn, 1) := by decide +kernel
theorem dX4_checkRange_0 : decode cX4_checkRange 0 = .ok (.iload_n 0, 1) := by decide +kernel
theorem dX4_checkRange_1 : decode cX4_checkRange 1 = .ok (.iload_n 1, 1) := by decide +kernel
theorem dX4_checkRange_2 : decode cX4_checkRange 2 = .ok (.if_icmp .lt 8, 3) := by decide +kernel
theorem dX4_checkRange_5 : decode cX4_checkRange 5 = .ok (.iload_n 0, 1) := by decide +kernel
theorem dX4_checkRange_6 : decode cX4_checkRange 6 = .ok (.iload_n 2, 1) := by decide +kernel
theorem dX4_checkRange_7 : decode cX4_checkRange 7 = .ok (.if_icmp .le 14, 3) := by decide +kernel
theorem dX4_checkRange_10 : decode cX4_checkRange 10 = .ok (.new 145, 3) := by decide +kernel
theorem dX4_checkRange_13 : decode cX4_checkRange 13 = .ok (.dup, 1) := by decide +kernel
theorem dX4_checkRange_14 : decode cX4_checkRange 14 = .ok (.ldc_w 283, 3) := by decide +kernel
theorem dX4_checkRange_17 : decode cX4_checkRange 17 = .ok (.invokespecial 149, 3) := by decide +kernel
theorem dX4_checkRange_20 : decode cX4_checkRange 20 = .ok (.athrow, 1) := by decide +kernel
theorem dX4_checkRange_21 : decode cX4_checkRange 21 = .ok (.return_, 1) := by decide +kernel
theorem dX4_checkLeast_0 : decode cX4_checkLeast 0 = .ok (.iload_n 0, 1) := by decide +kernel
theorem dX4_checkLeast_1 : decode cX4_checkLeast 1 = .ok (.iload_n 1, 1) := by decide +kernel
theorem dX4_checkLeast_2 : decode cX4_checkLeast 2 = .ok (.if_icmp .ge 14, 3) := by decide +kernel
theorem dX4_checkLeast_5 : decode cX4_checkLeast 5 = .ok (.new 145, 3) := by decide +kernel
theorem dX4_checkLeast_8 : decode cX4_checkLeast 8 = .ok (.dup, 1) := by decide +kernel
theorem dX4_checkLeast_9 : decode cX4_checkLeast 9 = .ok (.ldc_w 285, 3) := by decide +kernel
theorem dX4_checkLeast_12 : decode cX4_checkLeast 12 = .ok (.invokespecial 149, 3) := by decide +kernel
theorem dX4_checkLeast_15 : decode cX4_checkLeast 15 = .ok (.athrow, 1) := by decide +kernel
theorem dX4_checkLeast_16 : decode cX4_checkLeast 16 = .ok (.return_, 1) := by decide +kernel
set_option maxRecDepth 20000 in
theorem ggX4_checkLength_X4_checkRange : GoodIn wsX4_checkLength wsX4_checkRange := goodIn_ca (goodIn_r _ [5, 6, 7] (by decide +kernel) (by decide +kernel)) (goodIn_sub (fun _ h => List.mem_cons_of_mem _ (List.mem_append_right _ h)) (by decide +kernel))
set_option maxRecDepth 20000 in
theorem gX4_checkLength_X4_checkRange : GoodIn wsX4_checkLength (va_wsS RX4 35 yX4_checkRange wsX4_checkRange) := goodIn_app (goodIn_of _ (by decide +kernel)) ggX4_checkLength_X4_checkRange
theorem dX4_checkLength_0 : decode cX4_checkLength 0 = .ok (.iload_n 0, 1) := by decide +kernel
theorem dX4_checkLength_1 : decode cX4_checkLength 1 = .ok (.sipush 500, 3) := by decide +kernel
theorem dX4_checkLength_4 : decode cX4_checkLength 4 = .ok (.ldc_w 287, 3) := by decide +kernel
theorem dX4_checkLength_7 : decode cX4_checkLength 7 = .ok (.invokestatic 35, 3) := by decide +kernel
theorem dX4_checkLength_10 : decode cX4_checkLength 10 = .ok (.return_, 1) := by decide +kernel
theorem dX4_checkStack_0 : decode cX4_checkStack 0 = .ok (.iload_n 0, 1) := by decide +kernel
theorem dX4_checkStack_1 : decode cX4_checkStack 1 = .ok (.ifCond .lt 8, 3) := by decide +kernel
theorem dX4_checkStack_4 : decode cX4_checkStack 4 = .ok (.iload_n 0, 1) := by decide +kernel
theorem dX4_checkStack_5 : decode cX4_checkStack 5 = .ok (.iconst 3, 1) := by decide +kernel
theorem dX4_checkStack_6 : decode cX4_checkStack 6 = .ok (.if_icmp .lt 14, 3) := by decide +kernel
theorem dX4_checkStack_9 : decode cX4_checkStack 9 = .ok (.new 288, 3) := by decide +kernel
theorem dX4_checkStack_12 : decode cX4_checkStack 12 = .ok (.dup, 1) := by decide +kernel
theorem dX4_checkStack_13 : decode cX4_checkStack 13 = .ok (.ldc_w 290, 3) := by decide +kernel
theorem dX4_checkStack_16 : decode cX4_checkStack 16 = .ok (.invokespecial 292, 3) := by decide +kernel
theorem dX4_checkStack_19 : decode cX4_checkStack 19 = .ok (.athrow, 1) := by decide +kernel
theorem dX4_checkStack_20 : decode cX4_checkStack 20 = .ok (.return_, 1) := by decide +kernel
theorem dX4_checkSetting_0 : decode cX4_checkSetting 0 = .ok (.iload_n 0, 1) := by decide +kernel
theorem dX4_checkSetting_1 : decode cX4_checkSetting 1 = .ok (.ifCond .lt 8, 3) := by decide +kernel
theorem dX4_checkSetting_4 : decode cX4_checkSetting 4 = .ok (.iload_n 0, 1) := by decide +kernel
theorem dX4_checkSetting_5 : decode cX4_checkSetting 5 = .ok (.iconst 4, 1) := by decide +kernel
theorem dX4_checkSetting_6 : decode cX4_checkSetting 6 = .ok (.if_icmp .lt 14, 3) := by decide +kernel
theorem dX4_checkSetting_9 : decode cX4_checkSetting 9 = .ok (.new 288, 3) := by decide +kernel
theorem dX4_checkSetting_12 : decode cX4_checkSetting 12 = .ok (.dup, 1) := by decide +kernel
theorem dX4_checkSetting_13 : decode cX4_checkSetting 13 = .ok (.ldc_w 293, 3) := by decide +kernel
theorem dX4_checkSetting_16 : decode cX4_checkSetting 16 = .ok (.invokespecial 292, 3) := by decide +kernel
theorem dX4_checkSetting_19 : decode cX4_checkSetting 19 = .ok (.athrow, 1) := by decide +kernel
theorem dX4_checkSetting_20 : decode cX4_checkSetting 20 = .ok (.return_, 1) := by decide +kernel
set_option maxRecDepth 20000 in
theorem ggX4_checkBlock_X3_hasBlock : GoodIn wsX4_checkBlock wsX3_hasBlock := goodIn_r _ [8, 9, 14, 15, 16, 17, 18, 19, 20, 21, 22, 23, 24, 25, 26] (by decide +kernel) (by decide +kernel)
set_option maxRecDepth 20000 in
theorem gX4_checkBlock_X3_hasBlock : GoodIn wsX4_checkBlock (wsV RX4 170 RX3 yX3_hasBlock wsX3_hasBlock) := goodIn_app (goodIn_of _ (by decide +kernel)) ggX4_checkBlock_X3_hasBlock
theorem dX4_checkBlock_0 : decode cX4_checkBlock 0 = .ok (.aload_n 0, 1) := by decide +kernel
theorem dX4_checkBlock_1 : decode cX4_checkBlock 1 = .ok (.getfield 12, 3) := by decide +kernel
theorem dX4_checkBlock_4 : decode cX4_checkBlock 4 = .ok (.iload_n 1, 1) := by decide +kernel
theorem dX4_checkBlock_5 : decode cX4_checkBlock 5 = .ok (.invokevirtual 170, 3) := by decide +kernel
theorem dX4_checkBlock_8 : decode cX4_checkBlock 8 = .ok (.ifCond .ne 14, 3) := by decide +kernel
theorem dX4_checkBlock_11 : decode cX4_checkBlock 11 = .ok (.new 288, 3) := by decide +kernel
theorem dX4_checkBlock_14 : decode cX4_checkBlock 14 = .ok (.dup, 1) := by decide +kernel
theorem dX4_checkBlock_15 : decode cX4_checkBlock 15 = .ok (.ldc_w 295, 3) := by decide +kernel
theorem dX4_checkBlock_18 : decode cX4_checkBlock 18 = .ok (.invokespecial 292, 3) := by decide +kernel
theorem dX4_checkBlock_21 : decode cX4_checkBlock 21 = .ok (.athrow, 1) := by decide +kernel
theorem dX4_checkBlock_22 : decode cX4_checkBlock 22 = .ok (.return_, 1) := by decide +kernel
set_option maxRecDepth 20000 in
theorem ggX4_checkFree_X3_isFree : GoodIn wsX4_checkFree wsX3_isFree := goodIn_r _ [8, 9, 14, 15, 16, 17, 18, 19, 20, 21, 22, 23, 24, 25, 26] (by decide +kernel) (by decide +kernel)
set_option maxRecDepth 20000 in
theorem gX4_checkFree_X3_isFree : GoodIn wsX4_checkFree (wsV RX4 297 RX3 yX3_isFree wsX3_isFree) := goodIn_app (goodIn_of _ (by decide +kernel)) ggX4_checkFree_X3_isFree
theorem dX4_checkFree_0 : decode cX4_checkFree 0 = .ok (.aload_n 0, 1) := by decide +kernel
theorem dX4_checkFree_1 : decode cX4_checkFree 1 = .ok (.getfield 12, 3) := by decide +kernel
theorem dX4_checkFree_4 : decode cX4_checkFree 4 = .ok (.iload_n 1, 1) := by decide +kernel
theorem dX4_checkFree_5 : decode cX4_checkFree 5 = .ok (.invokevirtual 297, 3) := by decide +kernel
theorem dX4_checkFree_8 : decode cX4_checkFree 8 = .ok (.ifCond .ne 14, 3) := by decide +kernel
theorem dX4_checkFree_11 : decode cX4_checkFree 11 = .ok (.new 43, 3) := by decide +kernel
theorem dX4_checkFree_14 : decode cX4_checkFree 14 = .ok (.dup, 1) := by decide +kernel
theorem dX4_checkFree_15 : decode cX4_checkFree 15 = .ok (.ldc_w 300, 3) := by decide +kernel
theorem dX4_checkFree_18 : decode cX4_checkFree 18 = .ok (.invokespecial 47, 3) := by decide +kernel
theorem dX4_checkFree_21 : decode cX4_checkFree 21 = .ok (.athrow, 1) := by decide +kernel
theorem dX4_checkFree_22 : decode cX4_checkFree 22 = .ok (.return_, 1) := by decide +kernel
theorem dJ6_bitCount_0f7a4_0 : decode cJ6_bitCount_0f7a4 0 = .ok (.iload_n 0, 1) := by decide +kernel
theorem dJ6_bitCount_0f7a4_1 : decode cJ6_bitCount_0f7a4 1 = .ok (.iload_n 0, 1) := by decide +kernel
theorem dJ6_bitCount_0f7a4_2 : decode cJ6_bitCount_0f7a4 2 = .ok (.iconst 1, 1) := by decide +kernel
theorem dJ6_bitCount_0f7a4_3 : decode cJ6_bitCount_0f7a4 3 = .ok (.iushr, 1) := by decide +kernel
theorem dJ6_bitCount_0f7a4_4 : decode cJ6_bitCount_0f7a4 4 = .ok (.ldc_w 265, 3) := by decide +kernel
theorem dJ6_bitCount_0f7a4_7 : decode cJ6_bitCount_0f7a4 7 = .ok (.iand, 1) := by decide +kernel
theorem dJ6_bitCount_0f7a4_8 : decode cJ6_bitCount_0f7a4 8 = .ok (.isub, 1) := by decide +kernel
theorem dJ6_bitCount_0f7a4_9 : decode cJ6_bitCount_0f7a4 9 = .ok (.istore_n 0, 1) := by decide +kernel
theorem dJ6_bitCount_0f7a4_10 : decode cJ6_bitCount_0f7a4 10 = .ok (.iload_n 0, 1) := by decide +kernel
theorem dJ6_bitCount_0f7a4_11 : decode cJ6_bitCount_0f7a4 11 = .ok (.ldc_w 266, 3) := by decide +kernel
theorem dJ6_bitCount_0f7a4_14 : decode cJ6_bitCount_0f7a4 14 = .ok (.iand, 1) := by decide +kernel
theorem dJ6_bitCount_0f7a4_15 : decode cJ6_bitCount_0f7a4 15 = .ok (.iload_n 0, 1) := by decide +kernel
theorem dJ6_bitCount_0f7a4_16 : decode cJ6_bitCount_0f7a4 16 = .ok (.iconst 2, 1) := by decide +kernel
theorem dJ6_bitCount_0f7a4_17 : decode cJ6_bitCount_0f7a4 17 = .ok (.iushr, 1) := by decide +kernel
theorem dJ6_bitCount_0f7a4_18 : decode cJ6_bitCount_0f7a4 18 = .ok (.ldc_w 266, 3) := by decide +kernel
theorem dJ6_bitCount_0f7a4_21 : decode cJ6_bitCount_0f7a4 21 = .ok (.iand, 1) := by decide +kernel
theorem dJ6_bitCount_0f7a4_22 : decode cJ6_bitCount_0f7a4 22 = .ok (.iadd, 1) := by decide +kernel
theorem dJ6_bitCount_0f7a4_23 : decode cJ6_bitCount_0f7a4 23 = .ok (.istore_n 0, 1) := by decide +kernel
theorem dJ6_bitCount_0f7a4_24 : decode cJ6_bitCount_0f7a4 24 = .ok (.iload_n 0, 1) := by decide +kernel
theorem dJ6_bitCount_0f7a4_25 : decode cJ6_bitCount_0f7a4 25 = .ok (.iload_n 0, 1) := by decide +kernel
theorem dJ6_bitCount_0f7a4_26 : decode cJ6_bitCount_0f7a4 26 = .ok (.iconst 4, 1) := by decide +kernel
theorem dJ6_bitCount_0f7a4_27 : decode cJ6_bitCount_0f7a4 27 = .ok (.iushr, 1) := by decide +kernel
theorem dJ6_bitCount_0f7a4_28 : decode cJ6_bitCount_0f7a4 28 = .ok (.iadd, 1) := by decide +kernel
theorem dJ6_bitCount_0f7a4_29 : decode cJ6_bitCount_0f7a4 29 = .ok (.ldc_w 267, 3) := by decide +kernel
theorem dJ6_bitCount_0f7a4_32 : decode cJ6_bitCount_0f7a4 32 = .ok (.iand, 1) := by decide +kernel
theorem dJ6_bitCount_0f7a4_33 : decode cJ6_bitCount_0f7a4 33 = .ok (.istore_n 0, 1) := by decide +kernel
theorem dJ6_bitCount_0f7a4_34 : decode cJ6_bitCount_0f7a4 34 = .ok (.iload_n 0, 1) := by decide +kernel
theorem dJ6_bitCount_0f7a4_35 : decode cJ6_bitCount_0f7a4 35 = .ok (.iload_n 0, 1) := by decide +kernel
theorem dJ6_bitCount_0f7a4_36 : decode cJ6_bitCount_0f7a4 36 = .ok (.bipush 8, 2) := by decide +kernel
theorem dJ6_bitCount_0f7a4_38 : decode cJ6_bitCount_0f7a4 38 = .ok (.iushr, 1) := by decide +kernel
theorem dJ6_bitCount_0f7a4_39 : decode cJ6_bitCount_0f7a4 39 = .ok (.iadd, 1) := by decide +kernel
theorem dJ6_bitCount_0f7a4_40 : decode cJ6_bitCount_0f7a4 40 = .ok (.istore_n 0, 1) := by decide +kernel
theorem dJ6_bitCount_0f7a4_41 : decode cJ6_bitCount_0f7a4 41 = .ok (.iload_n 0, 1) := by decide +kernel
theorem dJ6_bitCount_0f7a4_42 : decode cJ6_bitCount_0f7a4 42 = .ok (.iload_n 0, 1) := by decide +kernel
theorem dJ6_bitCount_0f7a4_43 : decode cJ6_bitCount_0f7a4 43 = .ok (.bipush 16, 2) := by decide +kernel
theorem dJ6_bitCount_0f7a4_45 : decode cJ6_bitCount_0f7a4 45 = .ok (.iushr, 1) := by decide +kernel
theorem dJ6_bitCount_0f7a4_46 : decode cJ6_bitCount_0f7a4 46 = .ok (.iadd, 1) := by decide +kernel
theorem dJ6_bitCount_0f7a4_47 : decode cJ6_bitCount_0f7a4 47 = .ok (.istore_n 0, 1) := by decide +kernel
theorem dJ6_bitCount_0f7a4_48 : decode cJ6_bitCount_0f7a4 48 = .ok (.iload_n 0, 1) := by decide +kernel
theorem dJ6_bitCount_0f7a4_49 : decode cJ6_bitCount_0f7a4 49 = .ok (.bipush 63, 2) := by decide +kernel
theorem dJ6_bitCount_0f7a4_51 : decode cJ6_bitCount_0f7a4 51 = .ok (.iand, 1) := by decide +kernel
theorem dJ6_bitCount_0f7a4_52 : decode cJ6_bitCount_0f7a4 52 = .ok (.ireturn, 1) := by decide +kernel
theorem dJ9_abs_0f7a4_0 : decode cJ9_abs_0f7a4 0 = .ok (.iload_n 0, 1) := by decide +kernel
theorem dJ9_abs_0f7a4_1 : decode cJ9_abs_0f7a4 1 = .ok (.ifCond .ge 8, 3) := by decide +kernel
theorem dJ9_abs_0f7a4_4 : decode cJ9_abs_0f7a4 4 = .ok (.iload_n 0, 1) := by decide +kernel
theorem dJ9_abs_0f7a4_5 : decode cJ9_abs_0f7a4 5 = .ok (.ineg, 1) := by decide +kernel
theorem dJ9_abs_0f7a4_6 : decode cJ9_abs_0f7a4 6 = .ok (.goto 4, 3) := by decide +kernel
theorem dJ9_abs_0f7a4_9 : decode cJ9_abs_0f7a4 9 = .ok (.iload_n 0, 1) := by decide +kernel
theorem dJ9_abs_0f7a4_10 : decode cJ9_abs_0f7a4 10 = .ok (.ireturn, 1) := by decide +kernel
theorem dJ9_max_7cf53_0 : decode cJ9_max_7cf53 0 = .ok (.iload_n 0, 1) := by decide +kernel
theorem dJ9_max_7cf53_1 : decode cJ9_max_7cf53 1 = .ok (.iload_n 1, 1) := by decide +kernel
theorem dJ9_max_7cf53_2 : decode cJ9_max_7cf53 2 = .ok (.if_icmp .lt 7, 3) := by decide +kernel
theorem dJ9_max_7cf53_5 : decode cJ9_max_7cf53 5 = .ok (.iload_n 0, 1) := by decide +kernel
theorem dJ9_max_7cf53_6 : decode cJ9_max_7cf53 6 = .ok (.goto 4, 3) := by decide +kernel
theorem dJ9_max_7cf53_9 : decode cJ9_max_7cf53 9 = .ok (.iload_n 1, 1) := by decide +kernel
theorem dJ9_max_7cf53_10 : decode cJ9_max_7cf53 10 = .ok (.ireturn, 1) := by decide +kernel
theorem dJ9_min_7cf53_0 : decode cJ9_min_7cf53 0 = .ok (.iload_n 0, 1) := by decide +kernel
theorem dJ9_min_7cf53_1 : decode cJ9_min_7cf53 1 = .ok (.iload_n 1, 1) := by decide +kernel
theorem dJ9_min_7cf53_2 : decode cJ9_min_7cf53 2 = .ok (.if_icmp .gt 7, 3) := by decide +kernel
theorem dJ9_min_7cf53_5 : decode cJ9_min_7cf53 5 = .ok (.iload_n 0, 1) := by decide +kernel
theorem dJ9_min_7cf53_6 : decode cJ9_min_7cf53 6 = .ok (.goto 4, 3) := by decide +kernel
theorem dJ9_min_7cf53_9 : decode cJ9_min_7cf53 9 = .ok (.iload_n 1, 1) := by decide +kernel
theorem dJ9_min_7cf53_10 : decode cJ9_min_7cf53 10 = .ok (.ireturn, 1) := by decide +kernel
theorem dL_cell_0 : decode cL_cell 0 = .ok (.iload_n 1, 1) := by decide +kernel
theorem dL_cell_1 : decode cL_cell 1 = .ok (.aload_n 0, 1) := by decide +kernel
theorem dL_cell_2 : decode cL_cell 2 = .ok (.arraylength, 1) := by decide +kernel
theorem dL_cell_3 : decode cL_cell 3 = .ok (.if_icmp .ge 9, 3) := by decide +kernel
theorem dL_cell_6 : decode cL_cell 6 = .ok (.aload_n 0, 1) := by decide +kernel
theorem dL_cell_7 : decode cL_cell 7 = .ok (.iload_n 1, 1) := by decide +kernel
theorem dL_cell_8 : decode cL_cell 8 = .ok (.iaload, 1) := by decide +kernel
theorem dL_cell_9 : decode cL_cell 9 = .ok (.goto 9, 3) := by decide +kernel
theorem dL_cell_12 : decode cL_cell 12 = .ok (.ldc 7, 2) := by decide +kernel
theorem dL_cell_14 : decode cL_cell 14 = .ok (.iload_n 1, 1) := by decide +kernel
theorem dL_cell_15 : decode cL_cell 15 = .ok (.iconst 1, 1) := by decide +kernel
theorem dL_cell_16 : decode cL_cell 16 = .ok (.iadd, 1) := by decide +kernel
theorem dL_cell_17 : decode cL_cell 17 = .ok (.imul, 1) := by decide +kernel
theorem dL_cell_18 : decode cL_cell 18 = .ok (.ireturn, 1) := by decide +kernel
theorem dL_low_0 : decode cL_low 0 = .ok (.iload_n 0, 1) := by decide +kernel
theorem dL_low_1 : decode cL_low 1 = .ok (.ldc 8, 2) := by decide +kernel
theorem dL_low_3 : decode cL_low 3 = .ok (.iand, 1) := by decide +kernel
theorem dL_low_4 : decode cL_low 4 = .ok (.iload_n 1, 1) := by decide +kernel
theorem dL_low_5 : decode cL_low 5 = .ok (.irem, 1) := by decide +kernel
