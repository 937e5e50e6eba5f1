set_option maxRecDepth 20000 in
theorem gX5_block_X5_save : GoodIn wsX5_block (wsV RX5 54 RX5 yX5_save wsX5_save) := goodIn_app (goodIn_of _ (by decide +kernel)) ggX5_block_X5_save
set_option maxRecDepth 20000 in
theorem ggX5_block_X5_addBlock : GoodIn wsX5_block wsX5_addBlock := goodIn_r _ [21, 3, 22, 23, 24, 6, 25, 26, 27, 28, 29, 30, 31, 32, 33, 34, 35, 36, 37, 38, 39, 40, 41, 42, 43] (by decide +kernel) (by decide +kernel)
set_option maxRecDepth 20000 in
theorem gX5_block_X5_addBlock : GoodIn wsX5_block (wsV RX5 113 RX5 yX5_addBlock wsX5_addBlock) := goodIn_app (goodIn_of _ (by decide +kernel)) ggX5_block_X5_addBlock
theorem dX5_block_0 : decode cX5_block 0 = .ok (.aload_n 0, 1) := by decide +kernel
theorem dX5_block_1 : decode cX5_block 1 = .ok (.iconst 0, 1) := by decide +kernel
theorem dX5_block_2 : decode cX5_block 2 = .ok (.putfield 38, 3) := by decide +kernel
theorem dX5_block_5 : decode cX5_block 5 = .ok (.iload_n 1, 1) := by decide +kernel
theorem dX5_block_6 : decode cX5_block 6 = .ok (.sipush 500, 3) := by decide +kernel
theorem dX5_block_9 : decode cX5_block 9 = .ok (.ldc 112, 2) := by decide +kernel
theorem dX5_block_11 : decode cX5_block 11 = .ok (.invokestatic 42, 3) := by decide +kernel
theorem dX5_block_14 : decode cX5_block 14 = .ok (.ifCond .eq 16, 3) := by decide +kernel
theorem dX5_block_17 : decode cX5_block 17 = .ok (.iload_n 2, 1) := by decide +kernel
theorem dX5_block_18 : decode cX5_block 18 = .ok (.sipush (-900), 3) := by decide +kernel
theorem dX5_block_21 : decode cX5_block 21 = .ok (.sipush 900, 3) := by decide +kernel
theorem dX5_block_24 : decode cX5_block 24 = .ok (.invokestatic 42, 3) := by decide +kernel
theorem dX5_block_27 : decode cX5_block 27 = .ok (.ifCond .ne 9, 3) := by decide +kernel
theorem dX5_block_30 : decode cX5_block 30 = .ok (.aload_n 0, 1) := by decide +kernel
theorem dX5_block_31 : decode cX5_block 31 = .ok (.iconst 1, 1) := by decide +kernel
theorem dX5_block_32 : decode cX5_block 32 = .ok (.invokevirtual 50, 3) := by decide +kernel
theorem dX5_block_35 : decode cX5_block 35 = .ok (.ireturn, 1) := by decide +kernel
theorem dX5_block_36 : decode cX5_block 36 = .ok (.aload_n 0, 1) := by decide +kernel
theorem dX5_block_37 : decode cX5_block 37 = .ok (.getfield 7, 3) := by decide +kernel
theorem dX5_block_40 : decode cX5_block 40 = .ok (.bipush 8, 2) := by decide +kernel
theorem dX5_block_42 : decode cX5_block 42 = .ok (.iaload, 1) := by decide +kernel
theorem dX5_block_43 : decode cX5_block 43 = .ok (.bipush 20, 2) := by decide +kernel
theorem dX5_block_45 : decode cX5_block 45 = .ok (.if_icmp .ne 9, 3) := by decide +kernel
theorem dX5_block_48 : decode cX5_block 48 = .ok (.aload_n 0, 1) := by decide +kernel
theorem dX5_block_49 : decode cX5_block 49 = .ok (.iconst 2, 1) := by decide +kernel
theorem dX5_block_50 : decode cX5_block 50 = .ok (.invokevirtual 50, 3) := by decide +kernel
theorem dX5_block_53 : decode cX5_block 53 = .ok (.ireturn, 1) := by decide +kernel
theorem dX5_block_54 : decode cX5_block 54 = .ok (.aload_n 0, 1) := by decide +kernel
theorem dX5_block_55 : decode cX5_block 55 = .ok (.invokevirtual 54, 3) := by decide +kernel
theorem dX5_block_58 : decode cX5_block 58 = .ok (.aload_n 0, 1) := by decide +kernel
theorem dX5_block_59 : decode cX5_block 59 = .ok (.iload_n 1, 1) := by decide +kernel
theorem dX5_block_60 : decode cX5_block 60 = .ok (.iload_n 2, 1) := by decide +kernel
theorem dX5_block_61 : decode cX5_block 61 = .ok (.invokevirtual 113, 3) := by decide +kernel
theorem dX5_block_64 : decode cX5_block 64 = .ok (.ireturn, 1) := by decide +kernel
set_option maxRecDepth 20000 in
theorem ggX5_discard_X5_isBlock : GoodIn wsX5_discard wsX5_isBlock := goodIn_r _ [7, 2, 8, 9, 6, 10, 29, 30, 31, 32, 33, 34, 35, 36, 37, 38, 39, 40, 41, 42, 43, 44, 45, 46] (by decide +kernel) (by decide +kernel)
set_option maxRecDepth 20000 in
theorem gX5_discard_X5_isBlock : GoodIn wsX5_discard (wsV RX5 116 RX5 yX5_isBlock wsX5_isBlock) := goodIn_app (goodIn_of _ (by decide +kernel)) ggX5_discard_X5_isBlock
set_option maxRecDepth 20000 in
theorem ggX5_discard_X5_fails : GoodIn wsX5_discard wsX5_fails := goodIn_r _ [14, 1, 29, 30, 31, 32, 33, 34, 35, 36, 37, 38, 39, 40, 41, 42, 43, 44, 45, 46] (by decide +kernel) (by decide +kernel)
set_option maxRecDepth 20000 in
theorem gX5_discard_X5_fails : GoodIn wsX5_discard (wsV RX5 50 RX5 yX5_fails wsX5_fails) := goodIn_app (goodIn_of _ (by decide +kernel)) ggX5_discard_X5_fails
set_option maxRecDepth 20000 in
theorem ggX5_discard_X5_isFree : GoodIn wsX5_discard wsX5_isFree := goodIn_r _ [18, 19, 20, 21, 6, 22, 2, 29, 30, 31, 32, 33, 34, 35, 36, 37, 38, 39, 40, 41, 42, 43, 44, 45, 46] (by decide +kernel) (by decide +kernel)
set_option maxRecDepth 20000 in
theorem gX5_discard_X5_isFree : GoodIn wsX5_discard (wsV RX5 78 RX5 yX5_isFree wsX5_isFree) := goodIn_app (goodIn_of _ (by decide +kernel)) ggX5_discard_X5_isFree
set_option maxRecDepth 20000 in
theorem ggX5_discard_X5_save : GoodIn wsX5_discard wsX5_save := goodIn_r _ [26, 27, 28, 2, 29, 30, 31, 32, 33, 34, 35, 36, 37, 38, 39, 40, 41, 42, 43, 44, 45, 46] (by decide +kernel) (by decide +kernel)
set_option maxRecDepth 20000 in
theorem gX5_discard_X5_save : GoodIn wsX5_discard (wsV RX5 54 RX5 yX5_save wsX5_save) := goodIn_app (goodIn_of _ (by decide +kernel)) ggX5_discard_X5_save
theorem dX5_discard_0 : decode cX5_discard 0 = .ok (.aload_n 0, 1) := by decide +kernel
theorem dX5_discard_1 : decode cX5_discard 1 = .ok (.iconst 0, 1) := by decide +kernel
theorem dX5_discard_2 : decode cX5_discard 2 = .ok (.putfield 38, 3) := by decide +kernel
theorem dX5_discard_5 : decode cX5_discard 5 = .ok (.aload_n 0, 1) := by decide +kernel
theorem dX5_discard_6 : decode cX5_discard 6 = .ok (.iload_n 1, 1) := by decide +kernel
theorem dX5_discard_7 : decode cX5_discard 7 = .ok (.invokevirtual 116, 3) := by decide +kernel
theorem dX5_discard_10 : decode cX5_discard 10 = .ok (.ifCond .ne 9, 3) := by decide +kernel
theorem dX5_discard_13 : decode cX5_discard 13 = .ok (.aload_n 0, 1) := by decide +kernel
theorem dX5_discard_14 : decode cX5_discard 14 = .ok (.iconst 1, 1) := by decide +kernel
theorem dX5_discard_15 : decode cX5_discard 15 = .ok (.invokevirtual 50, 3) := by decide +kernel
theorem dX5_discard_18 : decode cX5_discard 18 = .ok (.ireturn, 1) := by decide +kernel
theorem dX5_discard_19 : decode cX5_discard 19 = .ok (.aload_n 0, 1) := by decide +kernel
theorem dX5_discard_20 : decode cX5_discard 20 = .ok (.iload_n 1, 1) := by decide +kernel
theorem dX5_discard_21 : decode cX5_discard 21 = .ok (.invokevirtual 78, 3) := by decide +kernel
theorem dX5_discard_24 : decode cX5_discard 24 = .ok (.ifCond .ne 9, 3) := by decide +kernel
theorem dX5_discard_27 : decode cX5_discard 27 = .ok (.aload_n 0, 1) := by decide +kernel
theorem dX5_discard_28 : decode cX5_discard 28 = .ok (.iconst 2, 1) := by decide +kernel
theorem dX5_discard_29 : decode cX5_discard 29 = .ok (.invokevirtual 50, 3) := by decide +kernel
theorem dX5_discard_32 : decode cX5_discard 32 = .ok (.ireturn, 1) := by decide +kernel
theorem dX5_discard_33 : decode cX5_discard 33 = .ok (.aload_n 0, 1) := by decide +kernel
theorem dX5_discard_34 : decode cX5_discard 34 = .ok (.invokevirtual 54, 3) := by decide +kernel
theorem dX5_discard_37 : decode cX5_discard 37 = .ok (.aload_n 0, 1) := by decide +kernel
theorem dX5_discard_38 : decode cX5_discard 38 = .ok (.getfield 7, 3) := by decide +kernel
theorem dX5_discard_41 : decode cX5_discard 41 = .ok (.bipush 8, 2) := by decide +kernel
theorem dX5_discard_43 : decode cX5_discard 43 = .ok (.dup2, 1) := by decide +kernel
theorem dX5_discard_44 : decode cX5_discard 44 = .ok (.iaload, 1) := by decide +kernel
theorem dX5_discard_45 : decode cX5_discard 45 = .ok (.iconst 1, 1) := by decide +kernel
theorem dX5_discard_46 : decode cX5_discard 46 = .ok (.isub, 1) := by decide +kernel
theorem dX5_discard_47 : decode cX5_discard 47 = .ok (.iastore, 1) := by decide +kernel
theorem dX5_discard_48 : decode cX5_discard 48 = .ok (.bipush 9, 2) := by decide +kernel
theorem dX5_discard_50 : decode cX5_discard 50 = .ok (.bipush 7, 2) := by decide +kernel
theorem dX5_discard_52 : decode cX5_discard 52 = .ok (.aload_n 0, 1) := by decide +kernel
theorem dX5_discard_53 : decode cX5_discard 53 = .ok (.getfield 7, 3) := by decide +kernel
theorem dX5_discard_56 : decode cX5_discard 56 = .ok (.bipush 8, 2) := by decide +kernel
theorem dX5_discard_58 : decode cX5_discard 58 = .ok (.iaload, 1) := by decide +kernel
theorem dX5_discard_59 : decode cX5_discard 59 = .ok (.imul, 1) := by decide +kernel
theorem dX5_discard_60 : decode cX5_discard 60 = .ok (.iadd, 1) := by decide +kernel
theorem dX5_discard_61 : decode cX5_discard 61 = .ok (.istore_n 2, 1) := by decide +kernel
theorem dX5_discard_62 : decode cX5_discard 62 = .ok (.bipush 9, 2) := by decide +kernel
theorem dX5_discard_64 : decode cX5_discard 64 = .ok (.bipush 7, 2) := by decide +kernel
theorem dX5_discard_66 : decode cX5_discard 66 = .ok (.iload_n 1, 1) := by decide +kernel
theorem dX5_discard_67 : decode cX5_discard 67 = .ok (.imul, 1) := by decide +kernel
theorem dX5_discard_68 : decode cX5_discard 68 = .ok (.iadd, 1) := by decide +kernel
theorem dX5_discard_69 : decode cX5_discard 69 = .ok (.istore_n 3, 1) := by decide +kernel
theorem dX5_discard_70 : decode cX5_discard 70 = .ok (.iload_n 3, 1) := by decide +kernel
theorem dX5_discard_71 : decode cX5_discard 71 = .ok (.iload_n 2, 1) := by decide +kernel
theorem dX5_discard_72 : decode cX5_discard 72 = .ok (.if_icmp .ge 24, 3) := by decide +kernel
theorem dX5_discard_75 : decode cX5_discard 75 = .ok (.aload_n 0, 1) := by decide +kernel
theorem dX5_discard_76 : decode cX5_discard 76 = .ok (.getfield 7, 3) := by decide +kernel
theorem dX5_discard_79 : decode cX5_discard 79 = .ok (.iload_n 3, 1) := by decide +kernel
theorem dX5_discard_80 : decode cX5_discard 80 = .ok (.aload_n 0, 1) := by decide +kernel
theorem dX5_discard_81 : decode cX5_discard 81 = .ok (.getfield 7, 3) := by decide +kernel
theorem dX5_discard_84 : decode cX5_discard 84 = .ok (.iload_n 3, 1) := by decide +kernel
theorem dX5_discard_85 : decode cX5_discard 85 = .ok (.bipush 7, 2) := by decide +kernel
theorem dX5_discard_87 : decode cX5_discard 87 = .ok (.iadd, 1) := by decide +kernel
theorem dX5_discard_88 : decode cX5_discard 88 = .ok (.iaload, 1) := by decide +kernel
theorem dX5_discard_89 : decode cX5_discard 89 = .ok (.iastore, 1) := by decide +kernel
theorem dX5_discard_90 : decode cX5_discard 90 = .ok (.iinc 3 1, 3) := by decide +kernel
theorem dX5_discard_93 : decode cX5_discard 93 = .ok (.goto (-23), 3) := by decide +kernel
theorem dX5_discard_96 : decode cX5_discard 96 = .ok (.iload_n 2, 1) := by decide +kernel
theorem dX5_discard_97 : decode cX5_discard 97 = .ok (.istore_n 3, 1) := by decide +kernel
theorem dX5_discard_98 : decode cX5_discard 98 = .ok (.iload_n 3, 1) := by decide +kernel
theorem dX5_discard_99 : decode cX5_discard 99 = .ok (.iload_n 2, 1) := by decide +kernel
theorem dX5_discard_100 : decode cX5_discard 100 = .ok (.bipush 7, 2) := by decide +kernel
theorem dX5_discard_102 : decode cX5_discard 102 = .ok (.iadd, 1) := by decide +kernel
theorem dX5_discard_103 : decode cX5_discard 103 = .ok (.if_icmp .ge 16, 3) := by decide +kernel
theorem dX5_discard_106 : decode cX5_discard 106 = .ok (.aload_n 0, 1) := by decide +kernel
theorem dX5_discard_107 : decode cX5_discard 107 = .ok (.getfield 7, 3) := by decide +kernel
theorem dX5_discard_110 : decode cX5_discard 110 = .ok (.iload_n 3, 1) := by decide +kernel
theorem dX5_discard_111 : decode cX5_discard 111 = .ok (.iconst 0, 1) := by decide +kernel
theorem dX5_discard_112 : decode cX5_discard 112 = .ok (.iastore, 1) := by decide +kernel
theorem dX5_discard_113 : decode cX5_discard 113 = .ok (.iinc 3 1, 3) := by decide +kernel
theorem dX5_discard_116 : decode cX5_discard 116 = .ok (.goto (-18), 3) := by decide +kernel
theorem dX5_discard_119 : decode cX5_discard 119 = .ok (.aload_n 0, 1) := by decide +kernel
theorem dX5_discard_120 : decode cX5_discard 120 = .ok (.getfield 7, 3) := by decide +kernel
theorem dX5_discard_123 : decode cX5_discard 123 = .ok (.bipush 8, 2) := by decide +kernel
theorem dX5_discard_125 : decode cX5_discard 125 = .ok (.iaload, 1) := by decide +kernel
theorem dX5_discard_126 : decode cX5_discard 126 = .ok (.ireturn, 1) := by decide +kernel
set_option maxRecDepth 20000 in
theorem ggX5_calibrate_X5_isBlock : GoodIn wsX5_calibrate wsX5_isBlock := goodIn_r _ [6, 7, 8, 9, 5, 10, 44, 45, 46, 47, 48, 49, 50, 51, 52, 53, 54, 55, 56, 57, 58, 59, 60, 61] (by decide +kernel) (by decide +kernel)
set_option maxRecDepth 20000 in
theorem gX5_calibrate_X5_isBlock : GoodIn wsX5_calibrate (wsV RX5 116 RX5 yX5_isBlock wsX5_isBlock) := goodIn_app (goodIn_of _ (by decide +kernel)) ggX5_calibrate_X5_isBlock
set_option maxRecDepth 20000 in
theorem ggX5_calibrate_X5_fails : GoodIn wsX5_calibrate wsX5_fails := goodIn_r _ [14, 1, 44, 45, 46, 47, 48, 49, 50, 51, 52, 53, 54, 55, 56, 57, 58, 59, 60, 61] (by decide +kernel) (by decide +kernel)
set_option maxRecDepth 20000 in
theorem gX5_calibrate_X5_fails : GoodIn wsX5_calibrate (wsV RX5 50 RX5 yX5_fails wsX5_fails) := goodIn_app (goodIn_of _ (by decide +kernel)) ggX5_calibrate_X5_fails
set_option maxRecDepth 20000 in
theorem ggX5_calibrate_X5_isFree : GoodIn wsX5_calibrate wsX5_isFree := goodIn_r _ [18, 19, 20, 21, 5, 22, 7, 44, 45, 46, 47, 48, 49, 50, 51, 52, 53, 54, 55, 56, 57, 58, 59, 60, 61] (by decide +kernel) (by decide +kernel)
set_option maxRecDepth 20000 in
theorem gX5_calibrate_X5_isFree : GoodIn wsX5_calibrate (wsV RX5 78 RX5 yX5_isFree wsX5_isFree) := goodIn_app (goodIn_of _ (by decide +kernel)) ggX5_calibrate_X5_isFree
set_option maxRecDepth 20000 in
theorem ggX5_calibrate_X5_save : GoodIn wsX5_calibrate wsX5_save := goodIn_r _ [26, 27, 28, 7, 44, 45, 46, 47, 48, 49, 50, 51, 52, 53, 54, 55, 56, 57, 58, 59, 60, 61] (by decide +kernel) (by decide +kernel)
set_option maxRecDepth 20000 in
theorem gX5_calibrate_X5_save : GoodIn wsX5_calibrate (wsV RX5 54 RX5 yX5_save wsX5_save) := goodIn_app (goodIn_of _ (by decide +kernel)) ggX5_calibrate_X5_save
set_option maxRecDepth 20000 in
theorem ggX5_calibrate_X5_error : GoodIn wsX5_calibrate wsX5_error := goodIn_r _ [32, 19, 20, 21, 5, 22, 7, 44, 45, 46, 47, 48, 49, 50, 51, 52, 53, 54, 55, 56, 57, 58, 59, 60, 61] (by decide +kernel) (by decide +kernel)
set_option maxRecDepth 20000 in
theorem gX5_calibrate_X5_error : GoodIn wsX5_calibrate (wsV RX5 61 RX5 yX5_error wsX5_error) := goodIn_app (goodIn_of _ (by decide +kernel)) ggX5_calibrate_X5_error
set_option maxRecDepth 20000 in
theorem ggX5_calibrate_X5_put : GoodIn wsX5_calibrate wsX5_put := goodIn_r _ [36, 7, 44, 45, 46, 47, 48, 49, 50, 51, 52, 53, 54, 55, 56, 57, 58, 59, 60, 61] (by decide +kernel) (by decide +kernel)
set_option maxRecDepth 20000 in
theorem gX5_calibrate_X5_put : GoodIn wsX5_calibrate (wsV RX5 67 RX5 yX5_put wsX5_put) := goodIn_app (goodIn_of _ (by decide +kernel)) ggX5_calibrate_X5_put
set_option maxRecDepth 20000 in
theorem ggX5_calibrate_X5_grade : GoodIn wsX5_calibrate wsX5_grade := goodIn_r _ [40, 29, 30, 31, 5, 32, 19, 20, 21, 22, 7, 41, 42, 43, 44, 45, 46, 47, 48, 49, 50, 51, 52, 53, 54, 55, 56, 57, 58, 59, 60, 61] (by decide +kernel) (by decide +kernel)
set_option maxRecDepth 20000 in
theorem gX5_calibrate_X5_grade : GoodIn wsX5_calibrate (wsV RX5 85 RX5 yX5_grade wsX5_grade) := goodIn_app (goodIn_of _ (by decide +kernel)) ggX5_calibrate_X5_grade
theorem dX5_calibrate_0 : decode cX5_calibrate 0 = .ok (.aload_n 0, 1) := by decide +kernel
theorem dX5_calibrate_1 : decode cX5_calibrate 1 = .ok (.iconst 0, 1) := by decide +kernel
theorem dX5_calibrate_2 : decode cX5_calibrate 2 = .ok (.putfield 38, 3) := by decide +kernel
theorem dX5_calibrate_5 : decode cX5_calibrate 5 = .ok (.aload_n 0, 1) := by decide +kernel
theorem dX5_calibrate_6 : decode cX5_calibrate 6 = .ok (.iload_n 1, 1) := by decide +kernel
theorem dX5_calibrate_7 : decode cX5_calibrate 7 = .ok (.invokevirtual 116, 3) := by decide +kernel
theorem dX5_calibrate_10 : decode cX5_calibrate 10 = .ok (.ifCond .ne 9, 3) := by decide +kernel
theorem dX5_calibrate_13 : decode cX5_calibrate 13 = .ok (.aload_n 0, 1) := by decide +kernel
theorem dX5_calibrate_14 : decode cX5_calibrate 14 = .ok (.iconst 1, 1) := by decide +kernel
theorem dX5_calibrate_15 : decode cX5_calibrate 15 = .ok (.invokevirtual 50, 3) := by decide +kernel
theorem dX5_calibrate_18 : decode cX5_calibrate 18 = .ok (.ireturn, 1) := by decide +kernel
theorem dX5_calibrate_19 : decode cX5_calibrate 19 = .ok (.aload_n 0, 1) := by decide +kernel
theorem dX5_calibrate_20 : decode cX5_calibrate 20 = .ok (.iload_n 1, 1) := by decide +kernel
theorem dX5_calibrate_21 : decode cX5_calibrate 21 = .ok (.invokevirtual 78, 3) := by decide +kernel
theorem dX5_calibrate_24 : decode cX5_calibrate 24 = .ok (.ifCond .ne 9, 3) := by decide +kernel
theorem dX5_calibrate_27 : decode cX5_calibrate 27 = .ok (.aload_n 0, 1) := by decide +kernel
theorem dX5_calibrate_28 : decode cX5_calibrate 28 = .ok (.iconst 2, 1) := by decide +kernel
theorem dX5_calibrate_29 : decode cX5_calibrate 29 = .ok (.invokevirtual 50, 3) := by decide +kernel
theorem dX5_calibrate_32 : decode cX5_calibrate 32 = .ok (.ireturn, 1) := by decide +kernel
theorem dX5_calibrate_33 : decode cX5_calibrate 33 = .ok (.aload_n 0, 1) := by decide +kernel
theorem dX5_calibrate_34 : decode cX5_calibrate 34 = .ok (.invokevirtual 54, 3) := by decide +kernel
theorem dX5_calibrate_37 : decode cX5_calibrate 37 = .ok (.aload_n 0, 1) := by decide +kernel
theorem dX5_calibrate_38 : decode cX5_calibrate 38 = .ok (.iload_n 1, 1) := by decide +kernel
theorem dX5_calibrate_39 : decode cX5_calibrate 39 = .ok (.iconst 1, 1) := by decide +kernel
theorem dX5_calibrate_40 : decode cX5_calibrate 40 = .ok (.aload_n 0, 1) := by decide +kernel
theorem dX5_calibrate_41 : decode cX5_calibrate 41 = .ok (.iload_n 1, 1) := by decide +kernel
theorem dX5_calibrate_42 : decode cX5_calibrate 42 = .ok (.invokevirtual 61, 3) := by decide +kernel
theorem dX5_calibrate_45 : decode cX5_calibrate 45 = .ok (.sipush (-900), 3) := by decide +kernel
theorem dX5_calibrate_48 : decode cX5_calibrate 48 = .ok (.if_icmp .ge 9, 3) := by decide +kernel
theorem dX5_calibrate_51 : decode cX5_calibrate 51 = .ok (.sipush (-900), 3) := by decide +kernel
theorem dX5_calibrate_54 : decode cX5_calibrate 54 = .ok (.goto 8, 3) := by decide +kernel
theorem dX5_calibrate_57 : decode cX5_calibrate 57 = .ok (.aload_n 0, 1) := by decide +kernel
theorem dX5_calibrate_58 : decode cX5_calibrate 58 = .ok (.iload_n 1, 1) := by decide +kernel
theorem dX5_calibrate_59 : decode cX5_calibrate 59 = .ok (.invokevirtual 61, 3) := by decide +kernel
theorem dX5_calibrate_62 : decode cX5_calibrate 62 = .ok (.invokevirtual 67, 3) := by decide +kernel
theorem dX5_calibrate_65 : decode cX5_calibrate 65 = .ok (.aload_n 0, 1) := by decide +kernel
theorem dX5_calibrate_66 : decode cX5_calibrate 66 = .ok (.iload_n 1, 1) := by decide +kernel
theorem dX5_calibrate_67 : decode cX5_calibrate 67 = .ok (.iconst 2, 1) := by decide +kernel
theorem dX5_calibrate_68 : decode cX5_calibrate 68 = .ok (.iconst 0, 1) := by decide +kernel
theorem dX5_calibrate_69 : decode cX5_calibrate 69 = .ok (.invokevirtual 67, 3) := by decide +kernel
theorem dX5_calibrate_72 : decode cX5_calibrate 72 = .ok (.aload_n 0, 1) := by decide +kernel
theorem dX5_calibrate_73 : decode cX5_calibrate 73 = .ok (.iload_n 1, 1) := by decide +kernel
theorem dX5_calibrate_74 : decode cX5_calibrate 74 = .ok (.invokevirtual 85, 3) := by decide +kernel
theorem dX5_calibrate_77 : decode cX5_calibrate 77 = .ok (.ireturn, 1) := by decide +kernel
set_option maxRecDepth 20000 in
theorem ggX5_hold_X5_isBlock : GoodIn wsX5_hold wsX5_isBlock := goodIn_r _ [6, 7, 8, 9, 5, 10, 37, 38, 39, 40, 41, 42, 43, 44, 45, 46, 47, 48, 49, 50, 51, 52, 53, 54] (by decide +kernel) (by decide +kernel)
set_option maxRecDepth 20000 in
theorem gX5_hold_X5_isBlock : GoodIn wsX5_hold (wsV RX5 116 RX5 yX5_isBlock wsX5_isBlock) := goodIn_app (goodIn_of _ (by decide +kernel)) ggX5_hold_X5_isBlock
set_option maxRecDepth 20000 in
theorem ggX5_hold_X5_fails : GoodIn wsX5_hold wsX5_fails := goodIn_r _ [14, 1, 37, 38, 39, 40, 41, 42, 43, 44, 45, 46, 47, 48, 49, 50, 51, 52, 53, 54] (by decide +kernel) (by decide +kernel)
set_option maxRecDepth 20000 in
theorem gX5_hold_X5_fails : GoodIn wsX5_hold (wsV RX5 50 RX5 yX5_fails wsX5_fails) := goodIn_app (goodIn_of _ (by decide +kernel)) ggX5_hold_X5_fails
set_option maxRecDepth 20000 in
theorem ggX5_hold_X5_in : GoodIn wsX5_hold wsX5_in := goodIn_r _ [10] (by decide +kernel) (by decide +kernel)
set_option maxRecDepth 20000 in
theorem gX5_hold_X5_in : GoodIn wsX5_hold (va_wsS RX5 42 yX5_in wsX5_in) := goodIn_app (goodIn_of _ (by decide +kernel)) ggX5_hold_X5_in
set_option maxRecDepth 20000 in
theorem ggX5_hold_X5_save : GoodIn wsX5_hold wsX5_save := goodIn_r _ [18, 19, 20, 7, 37, 38, 39, 40, 41, 42, 43, 44, 45, 46, 47, 48, 49, 50, 51, 52, 53, 54] (by decide +kernel) (by decide +kernel)
set_option maxRecDepth 20000 in
theorem gX5_hold_X5_save : GoodIn wsX5_hold (wsV RX5 54 RX5 yX5_save wsX5_save) := goodIn_app (goodIn_of _ (by decide +kernel)) ggX5_hold_X5_save
set_option maxRecDepth 20000 in
theorem ggX5_hold_X5_holdNow : GoodIn wsX5_hold wsX5_holdNow := goodIn_r _ [24, 25, 26, 27, 5, 28, 29, 30, 31, 32, 7, 33, 34, 35, 36, 37, 38, 39, 40, 41, 42, 43, 44, 45, 46, 47, 48, 49, 50, 51, 52, 53, 54] (by decide +kernel) (by decide +kernel)
set_option maxRecDepth 20000 in
theorem gX5_hold_X5_holdNow : GoodIn wsX5_hold (wsV RX5 119 RX5 yX5_holdNow wsX5_holdNow) := goodIn_app (goodIn_of _ (by decide +kernel)) ggX5_hold_X5_holdNow
theorem dX5_hold_0 : decode cX5_hold 0 = .ok (.aload_n 0, 1) := by decide +kernel
theorem dX5_hold_1 : decode cX5_hold 1 = .ok (.iconst 0, 1) := by decide +kernel
theorem dX5_hold_2 : decode cX5_hold 2 = .ok (.putfield 38, 3) := by decide +kernel
theorem dX5_hold_5 : decode cX5_hold 5 = .ok (.aload_n 0, 1) := by decide +kernel
theorem dX5_hold_6 : decode cX5_hold 6 = .ok (.iload_n 1, 1) := by decide +kernel
theorem dX5_hold_7 : decode cX5_hold 7 = .ok (.invokevirtual 116, 3) := by decide +kernel
theorem dX5_hold_10 : decode cX5_hold 10 = .ok (.ifCond .ne 9, 3) := by decide +kernel
theorem dX5_hold_13 : decode cX5_hold 13 = .ok (.aload_n 0, 1) := by decide +kernel
theorem dX5_hold_14 : decode cX5_hold 14 = .ok (.iconst 1, 1) := by decide +kernel
theorem dX5_hold_15 : decode cX5_hold 15 = .ok (.invokevirtual 50, 3) := by decide +kernel
theorem dX5_hold_18 : decode cX5_hold 18 = .ok (.ireturn, 1) := by decide +kernel
theorem dX5_hold_19 : decode cX5_hold 19 = .ok (.iload_n 2, 1) := by decide +kernel
theorem dX5_hold_20 : decode cX5_hold 20 = .ok (.iconst 1, 1) := by decide +kernel
theorem dX5_hold_21 : decode cX5_hold 21 = .ok (.bipush 60, 2) := by decide +kernel
theorem dX5_hold_23 : decode cX5_hold 23 = .ok (.invokestatic 42, 3) := by decide +kernel
theorem dX5_hold_26 : decode cX5_hold 26 = .ok (.ifCond .ne 9, 3) := by decide +kernel
theorem dX5_hold_29 : decode cX5_hold 29 = .ok (.aload_n 0, 1) := by decide +kernel
theorem dX5_hold_30 : decode cX5_hold 30 = .ok (.iconst 2, 1) := by decide +kernel
theorem dX5_hold_31 : decode cX5_hold 31 = .ok (.invokevirtual 50, 3) := by decide +kernel
theorem dX5_hold_34 : decode cX5_hold 34 = .ok (.ireturn, 1) := by decide +kernel
theorem dX5_hold_35 : decode cX5_hold 35 = .ok (.aload_n 0, 1) := by decide +kernel
theorem dX5_hold_36 : decode cX5_hold 36 = .ok (.invokevirtual 54, 3) := by decide +kernel
theorem dX5_hold_39 : decode cX5_hold 39 = .ok (.aload_n 0, 1) := by decide +kernel
theorem dX5_hold_40 : decode cX5_hold 40 = .ok (.iload_n 1, 1) := by decide +kernel
theorem dX5_hold_41 : decode cX5_hold 41 = .ok (.iload_n 2, 1) := by decide +kernel
theorem dX5_hold_42 : decode cX5_hold 42 = .ok (.invokevirtual 119, 3) := by decide +kernel
theorem dX5_hold_45 : decode cX5_hold 45 = .ok (.ireturn, 1) := by decide +kernel
set_option maxRecDepth 20000 in
theorem ggX5_rest_X5_in : GoodIn wsX5_rest wsX5_in := goodIn_r _ [5] (by decide +kernel) (by decide +kernel)
set_option maxRecDepth 20000 in
theorem gX5_rest_X5_in : GoodIn wsX5_rest (va_wsS RX5 42 yX5_in wsX5_in) := goodIn_app (goodIn_of _ (by decide +kernel)) ggX5_rest_X5_in
set_option maxRecDepth 20000 in
theorem ggX5_rest_X5_fails : GoodIn wsX5_rest wsX5_fails := goodIn_r _ [9, 1, 32, 33, 34, 35, 36, 37, 38, 39, 40, 41, 42, 43, 44, 45, 46, 47, 48, 49] (by decide +kernel) (by decide +kernel)
set_option maxRecDepth 20000 in
theorem gX5_rest_X5_fails : GoodIn wsX5_rest (wsV RX5 50 RX5 yX5_fails wsX5_fails) := goodIn_app (goodIn_of _ (by decide +kernel)) ggX5_rest_X5_fails
set_option maxRecDepth 20000 in
theorem ggX5_rest_X5_save : GoodIn wsX5_rest wsX5_save := goodIn_r _ [13, 14, 15, 16, 32, 33, 34, 35, 36, 37, 38, 39, 40, 41, 42, 43, 44, 45, 46, 47, 48, 49] (by decide +kernel) (by decide +kernel)
set_option maxRecDepth 20000 in
theorem gX5_rest_X5_save : GoodIn wsX5_rest (wsV RX5 54 RX5 yX5_save wsX5_save) := goodIn_app (goodIn_of _ (by decide +kernel)) ggX5_rest_X5_save
set_option maxRecDepth 20000 in
theorem ggX5_rest_X5_restNow : GoodIn wsX5_rest wsX5_restNow := goodIn_r _ [20, 16, 21, 22, 23, 4, 24, 25, 26, 27, 28, 29, 30, 31, 32, 33, 34, 35, 36, 37, 38, 39, 40, 41, 42, 43, 44, 45, 46, 47, 48, 49] (by decide +kernel) (by decide +kernel)
set_option maxRecDepth 20000 in
theorem gX5_rest_X5_restNow : GoodIn wsX5_rest (wsV RX5 122 RX5 yX5_restNow wsX5_restNow) := goodIn_app (goodIn_of _ (by decide +kernel)) ggX5_rest_X5_restNow
theorem dX5_rest_0 : decode cX5_rest 0 = .ok (.aload_n 0, 1) := by decide +kernel
theorem dX5_rest_1 : decode cX5_rest 1 = .ok (.iconst 0, 1) := by decide +kernel
theorem dX5_rest_2 : decode cX5_rest 2 = .ok (.putfield 38, 3) := by decide +kernel
theorem dX5_rest_5 : decode cX5_rest 5 = .ok (.iload_n 1, 1) := by decide +kernel
theorem dX5_rest_6 : decode cX5_rest 6 = .ok (.iconst 1, 1) := by decide +kernel
theorem dX5_rest_7 : decode cX5_rest 7 = .ok (.bipush 60, 2) := by decide +kernel
theorem dX5_rest_9 : decode cX5_rest 9 = .ok (.invokestatic 42, 3) := by decide +kernel
theorem dX5_rest_12 : decode cX5_rest 12 = .ok (.ifCond .ne 9, 3) := by decide +kernel
theorem dX5_rest_15 : decode cX5_rest 15 = .ok (.aload_n 0, 1) := by decide +kernel
theorem dX5_rest_16 : decode cX5_rest 16 = .ok (.iconst 1, 1) := by decide +kernel
theorem dX5_rest_17 : decode cX5_rest 17 = .ok (.invokevirtual 50, 3) := by decide +kernel
theorem dX5_rest_20 : decode cX5_rest 20 = .ok (.ireturn, 1) := by decide +kernel
theorem dX5_rest_21 : decode cX5_rest 21 = .ok (.aload_n 0, 1) := by decide +kernel
theorem dX5_rest_22 : decode cX5_rest 22 = .ok (.invokevirtual 54, 3) := by decide +kernel
theorem dX5_rest_25 : decode cX5_rest 25 = .ok (.aload_n 0, 1) := by decide +kernel
theorem dX5_rest_26 : decode cX5_rest 26 = .ok (.iload_n 1, 1) := by decide +kernel
theorem dX5_rest_27 : decode cX5_rest 27 = .ok (.invokevirtual 122, 3) := by decide +kernel
theorem dX5_rest_30 : decode cX5_rest 30 = .ok (.ireturn, 1) := by decide +kernel
set_option maxRecDepth 20000 in
theorem ggX5_maySet_X5_in : GoodIn wsX5_maySet wsX5_in := goodIn_r _ [4] (by decide +kernel) (by decide +kernel)
set_option maxRecDepth 20000 in
theorem gX5_maySet_X5_in : GoodIn wsX5_maySet (va_wsS RX5 42 yX5_in wsX5_in) := goodIn_app (goodIn_of _ (by decide +kernel)) ggX5_maySet_X5_in
theorem dX5_maySet_0 : decode cX5_maySet 0 = .ok (.iload_n 0, 1) := by decide +kernel
theorem dX5_maySet_1 : decode cX5_maySet 1 = .ok (.tableswitch 52 0 2 #[27, 35, 44], 27) := by decide +kernel
theorem dX5_maySet_28 : decode cX5_maySet 28 = .ok (.iload_n 1, 1) := by decide +kernel
theorem dX5_maySet_29 : decode cX5_maySet 29 = .ok (.iconst 0, 1) := by decide +kernel
theorem dX5_maySet_30 : decode cX5_maySet 30 = .ok (.bipush 60, 2) := by decide +kernel
theorem dX5_maySet_32 : decode cX5_maySet 32 = .ok (.invokestatic 42, 3) := by decide +kernel
theorem dX5_maySet_35 : decode cX5_maySet 35 = .ok (.ireturn, 1) := by decide +kernel
theorem dX5_maySet_36 : decode cX5_maySet 36 = .ok (.iload_n 1, 1) := by decide +kernel
theorem dX5_maySet_37 : decode cX5_maySet 37 = .ok (.iconst 0, 1) := by decide +kernel
theorem dX5_maySet_38 : decode cX5_maySet 38 = .ok (.sipush 1000, 3) := by decide +kernel
theorem dX5_maySet_41 : decode cX5_maySet 41 = .ok (.invokestatic 42, 3) := by decide +kernel
theorem dX5_maySet_44 : decode cX5_maySet 44 = .ok (.ireturn, 1) := by decide +kernel
theorem dX5_maySet_45 : decode cX5_maySet 45 = .ok (.iload_n 1, 1) := by decide +kernel
theorem dX5_maySet_46 : decode cX5_maySet 46 = .ok (.iconst 0, 1) := by decide +kernel
theorem dX5_maySet_47 : decode cX5_maySet 47 = .ok (.bipush 20, 2) := by decide +kernel
theorem dX5_maySet_49 : decode cX5_maySet 49 = .ok (.invokestatic 42, 3) := by decide +kernel
theorem dX5_maySet_52 : decode cX5_maySet 52 = .ok (.ireturn, 1) := by decide +kernel
theorem dX5_maySet_53 : decode cX5_maySet 53 = .ok (.iload_n 1, 1) := by decide +kernel
theorem dX5_maySet_54 : decode cX5_maySet 54 = .ok (.iconst 0, 1) := by decide +kernel
theorem dX5_maySet_55 : decode cX5_maySet 55 = .ok (.sipush 200, 3) := by decide +kernel
theorem dX5_maySet_58 : decode cX5_maySet 58 = .ok (.invokestatic 42, 3) := by decide +kernel
theorem dX5_maySet_61 : decode cX5_maySet 61 = .ok (.ireturn, 1) := by decide +kernel
set_option maxRecDepth 20000 in
theorem ggX5_set_X5_in : GoodIn wsX5_set wsX5_in := goodIn_r _ [6] (by decide +kernel) (by decide +kernel)
set_option maxRecDepth 20000 in
theorem gX5_set_X5_in : GoodIn wsX5_set (va_wsS RX5 42 yX5_in wsX5_in) := goodIn_app (goodIn_of _ (by decide +kernel)) ggX5_set_X5_in
set_option maxRecDepth 20000 in
theorem ggX5_set_X5_fails : GoodIn wsX5_set wsX5_fails := goodIn_r _ [10, 1, 20, 21, 22, 23, 24, 25, 26, 27, 28, 29, 30, 31, 32, 33, 34, 35, 36, 37] (by decide +kernel) (by decide +kernel)
set_option maxRecDepth 20000 in
theorem gX5_set_X5_fails : GoodIn wsX5_set (wsV RX5 50 RX5 yX5_fails wsX5_fails) := goodIn_app (goodIn_of _ (by decide +kernel)) ggX5_set_X5_fails
set_option maxRecDepth 20000 in
theorem ggX5_set_X5_maySet : GoodIn wsX5_set wsX5_maySet := goodIn_r _ [13, 3, 4, 5, 6] (by decide +kernel) (by decide +kernel)
set_option maxRecDepth 20000 in
theorem gX5_set_X5_maySet : GoodIn wsX5_set (va_wsS RX5 125 yX5_maySet wsX5_maySet) := goodIn_app (goodIn_of _ (by decide +kernel)) ggX5_set_X5_maySet
set_option maxRecDepth 20000 in
theorem ggX5_set_X5_save : GoodIn wsX5_set wsX5_save := goodIn_r _ [17, 18, 19, 2, 20, 21, 22, 23, 24, 25, 26, 27, 28, 29, 30, 31, 32, 33, 34, 35, 36, 37] (by decide +kernel) (by decide +kernel)
set_option maxRecDepth 20000 in
theorem gX5_set_X5_save : GoodIn wsX5_set (wsV RX5 54 RX5 yX5_save wsX5_save) := goodIn_app (goodIn_of _ (by decide +kernel)) ggX5_set_X5_save
theorem dX5_set_0 : decode cX5_set 0 = .ok (.aload_n 0, 1) := by decide +kernel
theorem dX5_set_1 : decode cX5_set 1 = .ok (.iconst 0, 1) := by decide +kernel
theorem dX5_set_2 : decode cX5_set 2 = .ok (.putfield 38, 3) := by decide +kernel
theorem dX5_set_5 : decode cX5_set 5 = .ok (.iload_n 1, 1) := by decide +kernel
theorem dX5_set_6 : decode cX5_set 6 = .ok (.iconst 0, 1) := by decide +kernel
theorem dX5_set_7 : decode cX5_set 7 = .ok (.iconst 3, 1) := by decide +kernel
theorem dX5_set_8 : decode cX5_set 8 = .ok (.invokestatic 42, 3) := by decide +kernel
theorem dX5_set_11 : decode cX5_set 11 = .ok (.ifCond .ne 9, 3) := by decide +kernel
theorem dX5_set_14 : decode cX5_set 14 = .ok (.aload_n 0, 1) := by decide +kernel
theorem dX5_set_15 : decode cX5_set 15 = .ok (.iconst 1, 1) := by decide +kernel
theorem dX5_set_16 : decode cX5_set 16 = .ok (.invokevirtual 50, 3) := by decide +kernel
theorem dX5_set_19 : decode cX5_set 19 = .ok (.ireturn, 1) := by decide +kernel
theorem dX5_set_20 : decode cX5_set 20 = .ok (.iload_n 1, 1) := by decide +kernel
theorem dX5_set_21 : decode cX5_set 21 = .ok (.iload_n 2, 1) := by decide +kernel
theorem dX5_set_22 : decode cX5_set 22 = .ok (.invokestatic 125, 3) := by decide +kernel
theorem dX5_set_25 : decode cX5_set 25 = .ok (.ifCond .ne 9, 3) := by decide +kernel
theorem dX5_set_28 : decode cX5_set 28 = .ok (.aload_n 0, 1) := by decide +kernel
theorem dX5_set_29 : decode cX5_set 29 = .ok (.iconst 2, 1) := by decide +kernel
theorem dX5_set_30 : decode cX5_set 30 = .ok (.invokevirtual 50, 3) := by decide +kernel
theorem dX5_set_33 : decode cX5_set 33 = .ok (.ireturn, 1) := by decide +kernel
theorem dX5_set_34 : decode cX5_set 34 = .ok (.aload_n 0, 1) := by decide +kernel
theorem dX5_set_35 : decode cX5_set 35 = .ok (.invokevirtual 54, 3) := by decide +kernel
theorem dX5_set_38 : decode cX5_set 38 = .ok (.aload_n 0, 1) := by decide +kernel
theorem dX5_set_39 : decode cX5_set 39 = .ok (.getfield 7, 3) := by decide +kernel
theorem dX5_set_42 : decode cX5_set 42 = .ok (.iload_n 1, 1) := by decide +kernel
theorem dX5_set_43 : decode cX5_set 43 = .ok (.iaload, 1) := by decide +kernel
theorem dX5_set_44 : decode cX5_set 44 = .ok (.istore_n 3, 1) := by decide +kernel
theorem dX5_set_45 : decode cX5_set 45 = .ok (.aload_n 0, 1) := by decide +kernel
theorem dX5_set_46 : decode cX5_set 46 = .ok (.getfield 7, 3) := by decide +kernel
theorem dX5_set_49 : decode cX5_set 49 = .ok (.iload_n 1, 1) := by decide +kernel
theorem dX5_set_50 : decode cX5_set 50 = .ok (.iload_n 2, 1) := by decide +kernel
theorem dX5_set_51 : decode cX5_set 51 = .ok (.iastore, 1) := by decide +kernel
theorem dX5_set_52 : decode cX5_set 52 = .ok (.iload_n 3, 1) := by decide +kernel
theorem dX5_set_53 : decode cX5_set 53 = .ok (.ireturn, 1) := by decide +kernel
set_option maxRecDepth 20000 in
theorem ggX5_wring_X5_isStack : GoodIn wsX5_wring wsX5_isStack := goodIn_r _ [5, 6, 7, 4, 8] (by decide +kernel) (by decide +kernel)
set_option maxRecDepth 20000 in
theorem gX5_wring_X5_isStack : GoodIn wsX5_wring (va_wsS RX5 129 yX5_isStack wsX5_isStack) := goodIn_app (goodIn_of _ (by decide +kernel)) ggX5_wring_X5_isStack
set_option maxRecDepth 20000 in
theorem ggX5_wring_X5_isBlock : GoodIn wsX5_wring wsX5_isBlock := goodIn_r _ [12, 13, 6, 7, 4, 8, 71, 72, 73, 74, 75, 76, 77, 78, 79, 80, 81, 82, 83, 84, 85, 86, 87, 88] (by decide +kernel) (by decide +kernel)
set_option maxRecDepth 20000 in
theorem gX5_wring_X5_isBlock : GoodIn wsX5_wring (wsV RX5 116 RX5 yX5_isBlock wsX5_isBlock) := goodIn_app (goodIn_of _ (by decide +kernel)) ggX5_wring_X5_isBlock
set_option maxRecDepth 20000 in
theorem ggX5_wring_X5_fails : GoodIn wsX5_wring wsX5_fails := goodIn_r _ [17, 1, 71, 72, 73, 74, 75, 76, 77, 78, 79, 80, 81, 82, 83, 84, 85, 86, 87, 88] (by decide +kernel) (by decide +kernel)
set_option maxRecDepth 20000 in
theorem gX5_wring_X5_fails : GoodIn wsX5_wring (wsV RX5 50 RX5 yX5_fails wsX5_fails) := goodIn_app (goodIn_of _ (by decide +kernel)) ggX5_wring_X5_fails
set_option maxRecDepth 20000 in
theorem ggX5_wring_X5_save : GoodIn wsX5_wring wsX5_save := goodIn_r _ [21, 22, 23, 13, 71, 72, 73, 74, 75, 76, 77, 78, 79, 80, 81, 82, 83, 84, 85, 86, 87, 88] (by decide +kernel) (by decide +kernel)
set_option maxRecDepth 20000 in
theorem gX5_wring_X5_save : GoodIn wsX5_wring (wsV RX5 54 RX5 yX5_save wsX5_save) := goodIn_app (goodIn_of _ (by decide +kernel)) ggX5_wring_X5_save
set_option maxRecDepth 20000 in
theorem ggX5_wring_X5_wringNow : GoodIn wsX5_wring wsX5_wringNow := goodIn_r _ [27, 13, 28, 29, 30, 4, 31, 32, 33, 34, 35, 36, 37, 38, 39, 40, 41, 42, 43, 44, 45, 46, 47, 48, 49, 50, 51, 52, 53, 54, 55, 56, 57, 58, 59, 60, 61, 62, 63, 64, 65, 66, 67, 68, 69, 70, 71, 72, 73, 74, 75, 76, 77, 78, 79, 80, 81, 82, 83, 84, 85, 86, 87, 88] (by decide +kernel) (by decide +kernel)
set_option maxRecDepth 20000 in
theorem gX5_wring_X5_wringNow : GoodIn wsX5_wring (wsV RX5 132 RX5 yX5_wringNow wsX5_wringNow) := goodIn_app (goodIn_of _ (by decide +kernel)) ggX5_wring_X5_wringNow
theorem dX5_wring_0 : decode cX5_wring 0 = .ok (.aload_n 0, 1) := by decide +kernel
theorem dX5_wring_1 : decode cX5_wring 1 = .ok (.iconst 0, 1) := by decide +kernel
theorem dX5_wring_2 : decode cX5_wring 2 = .ok (.putfield 38, 3) := by decide +kernel
theorem dX5_wring_5 : decode cX5_wring 5 = .ok (.iload_n 1, 1) := by decide +kernel
theorem dX5_wring_6 : decode cX5_wring 6 = .ok (.invokestatic 129, 3) := by decide +kernel
theorem dX5_wring_9 : decode cX5_wring 9 = .ok (.ifCond .eq 11, 3) := by decide +kernel
theorem dX5_wring_12 : decode cX5_wring 12 = .ok (.aload_n 0, 1) := by decide +kernel
theorem dX5_wring_13 : decode cX5_wring 13 = .ok (.iload_n 2, 1) := by decide +kernel
theorem dX5_wring_14 : decode cX5_wring 14 = .ok (.invokevirtual 116, 3) := by decide +kernel
theorem dX5_wring_17 : decode cX5_wring 17 = .ok (.ifCond .ne 9, 3) := by decide +kernel
theorem dX5_wring_20 : decode cX5_wring 20 = .ok (.aload_n 0, 1) := by decide +kernel
theorem dX5_wring_21 : decode cX5_wring 21 = .ok (.iconst 1, 1) := by decide +kernel
theorem dX5_wring_22 : decode cX5_wring 22 = .ok (.invokevirtual 50, 3) := by decide +kernel
theorem dX5_wring_25 : decode cX5_wring 25 = .ok (.ireturn, 1) := by decide +kernel
theorem dX5_wring_26 : decode cX5_wring 26 = .ok (.aload_n 0, 1) := by decide +kernel
theorem dX5_wring_27 : decode cX5_wring 27 = .ok (.invokevirtual 54, 3) := by decide +kernel
theorem dX5_wring_30 : decode cX5_wring 30 = .ok (.aload_n 0, 1) := by decide +kernel
theorem dX5_wring_31 : decode cX5_wring 31 = .ok (.iload_n 1, 1) := by decide +kernel
theorem dX5_wring_32 : decode cX5_wring 32 = .ok (.iload_n 2, 1) := by decide +kernel
theorem dX5_wring_33 : decode cX5_wring 33 = .ok (.invokevirtual 132, 3) := by decide +kernel
theorem dX5_wring_36 : decode cX5_wring 36 = .ok (.ireturn, 1) := by decide +kernel
set_option maxRecDepth 20000 in
theorem ggX5_takeOff_X5_isStack : GoodIn wsX5_takeOff wsX5_isStack := goodIn_r _ [5, 6, 7, 4, 8] (by decide +kernel) (by decide +kernel)
set_option maxRecDepth 20000 in
theorem gX5_takeOff_X5_isStack : GoodIn wsX5_takeOff (va_wsS RX5 129 yX5_isStack wsX5_isStack) := goodIn_app (goodIn_of _ (by decide +kernel)) ggX5_takeOff_X5_isStack
set_option maxRecDepth 20000 in
theorem ggX5_takeOff_X5_fails : GoodIn wsX5_takeOff wsX5_fails := goodIn_r _ [12, 1, 48, 49, 50, 51, 52, 53, 54, 55, 56, 57, 58, 59, 60, 61, 62, 63, 64, 65] (by decide +kernel) (by decide +kernel)
set_option maxRecDepth 20000 in
theorem gX5_takeOff_X5_fails : GoodIn wsX5_takeOff (wsV RX5 50 RX5 yX5_fails wsX5_fails) := goodIn_app (goodIn_of _ (by decide +kernel)) ggX5_takeOff_X5_fails
set_option maxRecDepth 20000 in
theorem ggX5_takeOff_X5_height : GoodIn wsX5_takeOff wsX5_height := goodIn_r _ [16, 17, 18, 19, 20, 4, 21, 48, 49, 50, 51, 52, 53, 54, 55, 56, 57, 58, 59, 60, 61, 62, 63, 64, 65] (by decide +kernel) (by decide +kernel)
set_option maxRecDepth 20000 in
theorem gX5_takeOff_X5_height : GoodIn wsX5_takeOff (wsV RX5 82 RX5 yX5_height wsX5_height) := goodIn_app (goodIn_of _ (by decide +kernel)) ggX5_takeOff_X5_height
set_option maxRecDepth 20000 in
theorem ggX5_takeOff_X5_save : GoodIn wsX5_takeOff wsX5_save := goodIn_r _ [25, 26, 27, 17, 48, 49, 50, 51, 52, 53, 54, 55, 56, 57, 58, 59, 60, 61, 62, 63, 64, 65] (by decide +kernel) (by decide +kernel)
set_option maxRecDepth 20000 in
theorem gX5_takeOff_X5_save : GoodIn wsX5_takeOff (wsV RX5 54 RX5 yX5_save wsX5_save) := goodIn_app (goodIn_of _ (by decide +kernel)) ggX5_takeOff_X5_save
set_option maxRecDepth 20000 in
theorem ggX5_takeOff_X5_takeNow : GoodIn wsX5_takeOff wsX5_takeNow := goodIn_r _ [31, 17, 13, 14, 15, 4, 16, 18, 19, 20, 21, 32, 33, 34, 35, 36, 37, 38, 39, 40, 41, 42, 43, 44, 45, 46, 47, 48, 49, 50, 51, 52, 53, 54, 55, 56, 57, 58, 59, 60, 61, 62, 63, 64, 65] (by decide +kernel) (by decide +kernel)
set_option maxRecDepth 20000 in
theorem gX5_takeOff_X5_takeNow : GoodIn wsX5_takeOff (wsV RX5 135 RX5 yX5_takeNow wsX5_takeNow) := goodIn_app (goodIn_of _ (by decide +kernel)) ggX5_takeOff_X5_takeNow
theorem dX5_takeOff_0 : decode cX5_takeOff 0 = .ok (.aload_n 0, 1) := by decide +kernel
theorem dX5_takeOff_1 : decode cX5_takeOff 1 = .ok (.iconst 0, 1) := by decide +kernel
theorem dX5_takeOff_2 : decode cX5_takeOff 2 = .ok (.putfield 38, 3) := by decide +kernel
theorem dX5_takeOff_5 : decode cX5_takeOff 5 = .ok (.iload_n 1, 1) := by decide +kernel
theorem dX5_takeOff_6 : decode cX5_takeOff 6 = .ok (.invokestatic 129, 3) := by decide +kernel
theorem dX5_takeOff_9 : decode cX5_takeOff 9 = .ok (.ifCond .ne 9, 3) := by decide +kernel
theorem dX5_takeOff_12 : decode cX5_takeOff 12 = .ok (.aload_n 0, 1) := by decide +kernel
theorem dX5_takeOff_13 : decode cX5_takeOff 13 = .ok (.iconst 1, 1) := by decide +kernel
theorem dX5_takeOff_14 : decode cX5_takeOff 14 = .ok (.invokevirtual 50, 3) := by decide +kernel
theorem dX5_takeOff_17 : decode cX5_takeOff 17 = .ok (.ireturn, 1) := by decide +kernel
theorem dX5_takeOff_18 : decode cX5_takeOff 18 = .ok (.aload_n 0, 1) := by decide +kernel
theorem dX5_takeOff_19 : decode cX5_takeOff 19 = .ok (.iload_n 1, 1) := by decide +kernel
theorem dX5_takeOff_20 : decode cX5_takeOff 20 = .ok (.invokevirtual 82, 3) := by decide +kernel
theorem dX5_takeOff_23 : decode cX5_takeOff 23 = .ok (.ifCond .ne 9, 3) := by decide +kernel
theorem dX5_takeOff_26 : decode cX5_takeOff 26 = .ok (.aload_n 0, 1) := by decide +kernel
theorem dX5_takeOff_27 : decode cX5_takeOff 27 = .ok (.iconst 2, 1) := by decide +kernel
theorem dX5_takeOff_28 : decode cX5_takeOff 28 = .ok (.invokevirtual 50, 3) := by decide +kernel
theorem dX5_takeOff_31 : decode cX5_takeOff 31 = .ok (.ireturn, 1) := by decide +kernel
theorem dX5_takeOff_32 : decode cX5_takeOff 32 = .ok (.aload_n 0, 1) := by decide +kernel
theorem dX5_takeOff_33 : decode cX5_takeOff 33 = .ok (.invokevirtual 54, 3) := by decide +kernel
theorem dX5_takeOff_36 : decode cX5_takeOff 36 = .ok (.aload_n 0, 1) := by decide +kernel
theorem dX5_takeOff_37 : decode cX5_takeOff 37 = .ok (.iload_n 1, 1) := by decide +kernel
theorem dX5_takeOff_38 : decode cX5_takeOff 38 = .ok (.invokevirtual 135, 3) := by decide +kernel
theorem dX5_takeOff_41 : decode cX5_takeOff 41 = .ok (.ireturn, 1) := by decide +kernel
set_option maxRecDepth 20000 in
theorem ggX5_makeNow_X5_fewestFor : GoodIn wsX5_makeNow wsX5_fewestFor := goodIn_r _ [6, 7, 8, 9, 10, 5, 11, 1, 12, 13, 14, 15, 16, 17, 18, 19, 20, 21, 22, 23, 24, 25, 26, 27, 28, 29, 30, 31, 71, 72, 73, 74, 75, 76, 77, 78, 79, 80, 81, 82, 83, 84, 85, 86, 87, 88] (by decide +kernel) (by decide +kernel)
set_option maxRecDepth 20000 in
theorem gX5_makeNow_X5_fewestFor : GoodIn wsX5_makeNow (wsV RX5 138 RX5 yX5_fewestFor wsX5_fewestFor) := goodIn_app (goodIn_of _ (by decide +kernel)) ggX5_makeNow_X5_fewestFor
set_option maxRecDepth 20000 in
theorem ggX5_makeNow_X5_wringNow : GoodIn wsX5_makeNow wsX5_wringNow := goodIn_r _ [35, 1, 36, 37, 38, 5, 39, 13, 14, 15, 16, 17, 18, 19, 20, 40, 41, 42, 43, 44, 45, 46, 47, 48, 49, 50, 51, 52, 53, 54, 55, 56, 57, 58, 59, 60, 61, 62, 63, 64, 65, 66, 67, 68, 69, 70, 71, 72, 73, 74, 75, 76, 77, 78, 79, 80, 81, 82, 83, 84, 85, 86, 87, 88] (by decide +kernel) (by decide +kernel)
set_option maxRecDepth 20000 in
theorem gX5_makeNow_X5_wringNow : GoodIn wsX5_makeNow (wsV RX5 132 RX5 yX5_wringNow wsX5_wringNow) := goodIn_app (goodIn_of _ (by decide +kernel)) ggX5_makeNow_X5_wringNow
theorem dX5_makeNow_0 : decode cX5_makeNow 0 = .ok (.aload_n 0, 1) := by decide +kernel
theorem dX5_makeNow_1 : decode cX5_makeNow 1 = .ok (.iload_n 2, 1) := by decide +kernel
theorem dX5_makeNow_2 : decode cX5_makeNow 2 = .ok (.invokevirtual 138, 3) := by decide +kernel
theorem dX5_makeNow_5 : decode cX5_makeNow 5 = .ok (.istore_n 3, 1) := by decide +kernel
theorem dX5_makeNow_6 : decode cX5_makeNow 6 = .ok (.iload_n 3, 1) := by decide +kernel
theorem dX5_makeNow_7 : decode cX5_makeNow 7 = .ok (.ifCond .ne 5, 3) := by decide +kernel
theorem dX5_makeNow_10 : decode cX5_makeNow 10 = .ok (.iconst (-1), 1) := by decide +kernel
theorem dX5_makeNow_11 : decode cX5_makeNow 11 = .ok (.ireturn, 1) := by decide +kernel
theorem dX5_makeNow_12 : decode cX5_makeNow 12 = .ok (.iconst 0, 1) := by decide +kernel
theorem dX5_makeNow_13 : decode cX5_makeNow 13 = .ok (.istore 4, 2) := by decide +kernel
theorem dX5_makeNow_15 : decode cX5_makeNow 15 = .ok (.iconst 1, 1) := by decide +kernel
theorem dX5_makeNow_16 : decode cX5_makeNow 16 = .ok (.istore 5, 2) := by decide +kernel
theorem dX5_makeNow_18 : decode cX5_makeNow 18 = .ok (.iconst 0, 1) := by decide +kernel
theorem dX5_makeNow_19 : decode cX5_makeNow 19 = .ok (.istore 6, 2) := by decide +kernel
theorem dX5_makeNow_21 : decode cX5_makeNow 21 = .ok (.iload 6, 2) := by decide +kernel
theorem dX5_makeNow_23 : decode cX5_makeNow 23 = .ok (.aload_n 0, 1) := by decide +kernel
theorem dX5_makeNow_24 : decode cX5_makeNow 24 = .ok (.getfield 7, 3) := by decide +kernel
theorem dX5_makeNow_27 : decode cX5_makeNow 27 = .ok (.bipush 8, 2) := by decide +kernel
theorem dX5_makeNow_29 : decode cX5_makeNow 29 = .ok (.iaload, 1) := by decide +kernel
theorem dX5_makeNow_30 : decode cX5_makeNow 30 = .ok (.if_icmp .ge 56, 3) := by decide +kernel
theorem dX5_makeNow_33 : decode cX5_makeNow 33 = .ok (.iload 5, 2) := by decide +kernel
theorem dX5_makeNow_35 : decode cX5_makeNow 35 = .ok (.ifCond .eq 51, 3) := by decide +kernel
theorem dX5_makeNow_38 : decode cX5_makeNow 38 = .ok (.iload_n 3, 1) := by decide +kernel
theorem dX5_makeNow_39 : decode cX5_makeNow 39 = .ok (.iload 6, 2) := by decide +kernel
theorem dX5_makeNow_41 : decode cX5_makeNow 41 = .ok (.ishr, 1) := by decide +kernel
theorem dX5_makeNow_42 : decode cX5_makeNow 42 = .ok (.iconst 1, 1) := by decide +kernel
theorem dX5_makeNow_43 : decode cX5_makeNow 43 = .ok (.iand, 1) := by decide +kernel
theorem dX5_makeNow_44 : decode cX5_makeNow 44 = .ok (.iconst 1, 1) := by decide +kernel
theorem dX5_makeNow_45 : decode cX5_makeNow 45 = .ok (.if_icmp .ne 35, 3) := by decide +kernel
theorem dX5_makeNow_48 : decode cX5_makeNow 48 = .ok (.aload_n 0, 1) := by decide +kernel
theorem dX5_makeNow_49 : decode cX5_makeNow 49 = .ok (.iload_n 1, 1) := by decide +kernel
theorem dX5_makeNow_50 : decode cX5_makeNow 50 = .ok (.iload 6, 2) := by decide +kernel
theorem dX5_makeNow_52 : decode cX5_makeNow 52 = .ok (.invokevirtual 132, 3) := by decide +kernel
theorem dX5_makeNow_55 : decode cX5_makeNow 55 = .ok (.ifCond .ne 7, 3) := by decide +kernel
theorem dX5_makeNow_58 : decode cX5_makeNow 58 = .ok (.iconst 1, 1) := by decide +kernel
theorem dX5_makeNow_59 : decode cX5_makeNow 59 = .ok (.goto 4, 3) := by decide +kernel
theorem dX5_makeNow_62 : decode cX5_makeNow 62 = .ok (.iconst 0, 1) := by decide +kernel
theorem dX5_makeNow_63 : decode cX5_makeNow 63 = .ok (.istore 5, 2) := by decide +kernel
theorem dX5_makeNow_65 : decode cX5_makeNow 65 = .ok (.iload 4, 2) := by decide +kernel
theorem dX5_makeNow_67 : decode cX5_makeNow 67 = .ok (.iload 5, 2) := by decide +kernel
theorem dX5_makeNow_69 : decode cX5_makeNow 69 = .ok (.ifCond .eq 7, 3) := by decide +kernel
theorem dX5_makeNow_72 : decode cX5_makeNow 72 = .ok (.iconst 1, 1) := by decide +kernel
theorem dX5_makeNow_73 : decode cX5_makeNow 73 = .ok (.goto 4, 3) := by decide +kernel
theorem dX5_makeNow_76 : decode cX5_makeNow 76 = .ok (.iconst 0, 1) := by decide +kernel
theorem dX5_makeNow_77 : decode cX5_makeNow 77 = .ok (.iadd, 1) := by decide +kernel
theorem dX5_makeNow_78 : decode cX5_makeNow 78 = .ok (.istore 4, 2) := by decide +kernel
theorem dX5_makeNow_80 : decode cX5_makeNow 80 = .ok (.iinc 6 1, 3) := by decide +kernel
theorem dX5_makeNow_83 : decode cX5_makeNow 83 = .ok (.goto (-62), 3) := by decide +kernel
theorem dX5_makeNow_86 : decode cX5_makeNow 86 = .ok (.iload 4, 2) := by decide +kernel
theorem dX5_makeNow_88 : decode cX5_makeNow 88 = .ok (.ireturn, 1) := by decide +kernel
set_option maxRecDepth 20000 in
theorem ggX5_make_X5_isStack : GoodIn wsX5_make wsX5_isStack := goodIn_r _ [5, 6, 7, 4, 8] (by decide +kernel) (by decide +kernel)
set_option maxRecDepth 20000 in
theorem gX5_make_X5_isStack : GoodIn wsX5_make (va_wsS RX5 129 yX5_isStack wsX5_isStack) := goodIn_app (goodIn_of _ (by decide +kernel)) ggX5_make_X5_isStack
set_option maxRecDepth 20000 in
theorem ggX5_make_X5_fails : GoodIn wsX5_make wsX5_fails := goodIn_r _ [12, 1, 96, 97, 98, 99, 100, 101, 102, 103, 104, 105, 106, 107, 108, 109, 110, 111, 112, 113] (by decide +kernel) (by decide +kernel)
set_option maxRecDepth 20000 in
theorem gX5_make_X5_fails : GoodIn wsX5_make (wsV RX5 50 RX5 yX5_fails wsX5_fails) := goodIn_app (goodIn_of _ (by decide +kernel)) ggX5_make_X5_fails
set_option maxRecDepth 20000 in
theorem ggX5_make_X5_isLength : GoodIn wsX5_make wsX5_isLength := goodIn_r _ [15, 16, 6, 7, 4, 8] (by decide +kernel) (by decide +kernel)
set_option maxRecDepth 20000 in
theorem gX5_make_X5_isLength : GoodIn wsX5_make (va_wsS RX5 141 yX5_isLength wsX5_isLength) := goodIn_app (goodIn_of _ (by decide +kernel)) ggX5_make_X5_isLength
set_option maxRecDepth 20000 in
theorem ggX5_make_X5_height : GoodIn wsX5_make wsX5_height := goodIn_r _ [20, 21, 22, 23, 24, 4, 25, 96, 97, 98, 99, 100, 101, 102, 103, 104, 105, 106, 107, 108, 109, 110, 111, 112, 113] (by decide +kernel) (by decide +kernel)
set_option maxRecDepth 20000 in
theorem gX5_make_X5_height : GoodIn wsX5_make (wsV RX5 82 RX5 yX5_height wsX5_height) := goodIn_app (goodIn_of _ (by decide +kernel)) ggX5_make_X5_height
set_option maxRecDepth 20000 in
theorem ggX5_make_X5_save : GoodIn wsX5_make wsX5_save := goodIn_r _ [29, 30, 31, 21, 96, 97, 98, 99, 100, 101, 102, 103, 104, 105, 106, 107, 108, 109, 110, 111, 112, 113] (by decide +kernel) (by decide +kernel)
set_option maxRecDepth 20000 in
theorem gX5_make_X5_save : GoodIn wsX5_make (wsV RX5 54 RX5 yX5_save wsX5_save) := goodIn_app (goodIn_of _ (by decide +kernel)) ggX5_make_X5_save
set_option maxRecDepth 20000 in
theorem ggX5_make_X5_makeNow : GoodIn wsX5_make wsX5_makeNow := goodIn_r _ [35, 21, 36, 37, 38, 4, 39, 40, 41, 42, 43, 44, 45, 46, 47, 48, 49, 22, 23, 24, 25, 50, 51, 52, 53, 54, 55, 56, 57, 58, 59, 60, 61, 62, 63, 64, 65, 66, 67, 68, 17, 18, 19, 20, 69, 70, 71, 72, 73, 74, 75, 76, 77, 78, 79, 80, 81, 82, 83, 84, 85, 86, 87, 88, 89, 90, 91, 92, 93, 94, 95, 96, 97, 98, 99, 100, 101, 102, 103, 104, 105, 106, 107, 108, 109, 110, 111, 112, 113] (by decide +kernel) (by decide +kernel)
set_option maxRecDepth 20000 in
theorem gX5_make_X5_makeNow : GoodIn wsX5_make (wsV RX5 144 RX5 yX5_makeNow wsX5_makeNow) := goodIn_app (goodIn_of _ (by decide +kernel)) ggX5_make_X5_makeNow
theorem dX5_make_0 : decode cX5_make 0 = .ok (.aload_n 0, 1) := by decide +kernel
theorem dX5_make_1 : decode cX5_make 1 = .ok (.iconst 0, 1) := by decide +kernel
theorem dX5_make_2 : decode cX5_make 2 = .ok (.putfield 38, 3) := by decide +kernel
theorem dX5_make_5 : decode cX5_make 5 = .ok (.iload_n 1, 1) := by decide +kernel
theorem dX5_make_6 : decode cX5_make 6 = .ok (.invokestatic 129, 3) := by decide +kernel
theorem dX5_make_9 : decode cX5_make 9 = .ok (.ifCond .ne 9, 3) := by decide +kernel
theorem dX5_make_12 : decode cX5_make 12 = .ok (.aload_n 0, 1) := by decide +kernel
theorem dX5_make_13 : decode cX5_make 13 = .ok (.iconst 1, 1) := by decide +kernel
theorem dX5_make_14 : decode cX5_make 14 = .ok (.invokevirtual 50, 3) := by decide +kernel
theorem dX5_make_17 : decode cX5_make 17 = .ok (.ireturn, 1) := by decide +kernel
theorem dX5_make_18 : decode cX5_make 18 = .ok (.iload_n 2, 1) := by decide +kernel
theorem dX5_make_19 : decode cX5_make 19 = .ok (.invokestatic 141, 3) := by decide +kernel
theorem dX5_make_22 : decode cX5_make 22 = .ok (.ifCond .ne 9, 3) := by decide +kernel
theorem dX5_make_25 : decode cX5_make 25 = .ok (.aload_n 0, 1) := by decide +kernel
theorem dX5_make_26 : decode cX5_make 26 = .ok (.iconst 2, 1) := by decide +kernel
theorem dX5_make_27 : decode cX5_make 27 = .ok (.invokevirtual 50, 3) := by decide +kernel
theorem dX5_make_30 : decode cX5_make 30 = .ok (.ireturn, 1) := by decide +kernel
theorem dX5_make_31 : decode cX5_make 31 = .ok (.aload_n 0, 1) := by decide +kernel
theorem dX5_make_32 : decode cX5_make 32 = .ok (.iload_n 1, 1) := by decide +kernel
theorem dX5_make_33 : decode cX5_make 33 = .ok (.invokevirtual 82, 3) := by decide +kernel
theorem dX5_make_36 : decode cX5_make 36 = .ok (.ifCond .le 9, 3) := by decide +kernel
theorem dX5_make_39 : decode cX5_make 39 = .ok (.aload_n 0, 1) := by decide +kernel
theorem dX5_make_40 : decode cX5_make 40 = .ok (.iconst 3, 1) := by decide +kernel
theorem dX5_make_41 : decode cX5_make 41 = .ok (.invokevirtual 50, 3) := by decide +kernel
theorem dX5_make_44 : decode cX5_make 44 = .ok (.ireturn, 1) := by decide +kernel
theorem dX5_make_45 : decode cX5_make 45 = .ok (.aload_n 0, 1) := by decide +kernel
theorem dX5_make_46 : decode cX5_make 46 = .ok (.invokevirtual 54, 3) := by decide +kernel
theorem dX5_make_49 : decode cX5_make 49 = .ok (.aload_n 0, 1) := by decide +kernel
theorem dX5_make_50 : decode cX5_make 50 = .ok (.iload_n 1, 1) := by decide +kernel
theorem dX5_make_51 : decode cX5_make 51 = .ok (.iload_n 2, 1) := by decide +kernel
theorem dX5_make_52 : decode cX5_make 52 = .ok (.invokevirtual 144, 3) := by decide +kernel
theorem dX5_make_55 : decode cX5_make 55 = .ok (.ireturn, 1) := by decide +kernel
set_option maxRecDepth 20000 in
theorem ggX5_append_X5_in : GoodIn wsX5_append wsX5_in := goodIn_r _ [7] (by decide +kernel) (by decide +kernel)
set_option maxRecDepth 20000 in
theorem gX5_append_X5_in : GoodIn wsX5_append (va_wsS RX5 42 yX5_in wsX5_in) := goodIn_app (goodIn_of _ (by decide +kernel)) ggX5_append_X5_in
set_option maxRecDepth 20000 in
theorem ggX5_append_X5_fails : GoodIn wsX5_append wsX5_fails := goodIn_r _ [11, 1, 12, 13, 14, 15, 16, 17, 18, 19, 20, 21, 22, 23, 24, 25, 26, 27, 28, 29] (by decide +kernel) (by decide +kernel)
set_option maxRecDepth 20000 in
theorem gX5_append_X5_fails : GoodIn wsX5_append (wsV RX5 50 RX5 yX5_fails wsX5_fails) := goodIn_app (goodIn_of _ (by decide +kernel)) ggX5_append_X5_fails
theorem dX5_append_0 : decode cX5_append 0 = .ok (.aload_n 0, 1) := by decide +kernel
theorem dX5_append_1 : decode cX5_append 1 = .ok (.iconst 0, 1) := by decide +kernel
theorem dX5_append_2 : decode cX5_append 2 = .ok (.putfield 38, 3) := by decide +kernel
theorem dX5_append_5 : decode cX5_append 5 = .ok (.iload_n 1, 1) := by decide +kernel
theorem dX5_append_6 : decode cX5_append 6 = .ok (.bipush 33, 2) := by decide +kernel
theorem dX5_append_8 : decode cX5_append 8 = .ok (.bipush 126, 2) := by decide +kernel
theorem dX5_append_10 : decode cX5_append 10 = .ok (.invokestatic 42, 3) := by decide +kernel
theorem dX5_append_13 : decode cX5_append 13 = .ok (.ifCond .ne 9, 3) := by decide +kernel
theorem dX5_append_16 : decode cX5_append 16 = .ok (.aload_n 0, 1) := by decide +kernel
theorem dX5_append_17 : decode cX5_append 17 = .ok (.iconst 1, 1) := by decide +kernel
theorem dX5_append_18 : decode cX5_append 18 = .ok (.invokevirtual 50, 3) := by decide +kernel
theorem dX5_append_21 : decode cX5_append 21 = .ok (.ireturn, 1) := by decide +kernel
theorem dX5_append_22 : decode cX5_append 22 = .ok (.aload_n 0, 1) := by decide +kernel
theorem dX5_append_23 : decode cX5_append 23 = .ok (.getfield 147, 3) := by decide +kernel
theorem dX5_append_26 : decode cX5_append 26 = .ok (.bipush 60, 2) := by decide +kernel
theorem dX5_append_28 : decode cX5_append 28 = .ok (.if_icmp .ne 9, 3) := by decide +kernel
theorem dX5_append_31 : decode cX5_append 31 = .ok (.aload_n 0, 1) := by decide +kernel
theorem dX5_append_32 : decode cX5_append 32 = .ok (.iconst 2, 1) := by decide +kernel
theorem dX5_append_33 : decode cX5_append 33 = .ok (.invokevirtual 50, 3) := by decide +kernel
theorem dX5_append_36 : decode cX5_append 36 = .ok (.ireturn, 1) := by decide +kernel
theorem dX5_append_37 : decode cX5_append 37 = .ok (.aload_n 0, 1) := by decide +kernel
theorem dX5_append_38 : decode cX5_append 38 = .ok (.getfield 26, 3) := by decide +kernel
theorem dX5_append_41 : decode cX5_append 41 = .ok (.aload_n 0, 1) := by decide +kernel
theorem dX5_append_42 : decode cX5_append 42 = .ok (.getfield 147, 3) := by decide +kernel
theorem dX5_append_45 : decode cX5_append 45 = .ok (.iload_n 1, 1) := by decide +kernel
theorem dX5_append_46 : decode cX5_append 46 = .ok (.iastore, 1) := by decide +kernel
theorem dX5_append_47 : decode cX5_append 47 = .ok (.aload_n 0, 1) := by decide +kernel
theorem dX5_append_48 : decode cX5_append 48 = .ok (.dup, 1) := by decide +kernel
theorem dX5_append_49 : decode cX5_append 49 = .ok (.getfield 147, 3) := by decide +kernel
theorem dX5_append_52 : decode cX5_append 52 = .ok (.iconst 1, 1) := by decide +kernel
theorem dX5_append_53 : decode cX5_append 53 = .ok (.iadd, 1) := by decide +kernel
theorem dX5_append_54 : decode cX5_append 54 = .ok (.putfield 147, 3) := by decide +kernel
theorem dX5_append_57 : decode cX5_append 57 = .ok (.aload_n 0, 1) := by decide +kernel
theorem dX5_append_58 : decode cX5_append 58 = .ok (.getfield 147, 3) := by decide +kernel
theorem dX5_append_61 : decode cX5_append 61 = .ok (.ireturn, 1) := by decide +kernel
theorem dX5_clearBuffer_0 : decode cX5_clearBuffer 0 = .ok (.aload_n 0, 1) := by decide +kernel
theorem dX5_clearBuffer_1 : decode cX5_clearBuffer 1 = .ok (.iconst 0, 1) := by decide +kernel
theorem dX5_clearBuffer_2 : decode cX5_clearBuffer 2 = .ok (.putfield 38, 3) := by decide +kernel
theorem dX5_clearBuffer_5 : decode cX5_clearBuffer 5 = .ok (.aload_n 0, 1) := by decide +kernel
theorem dX5_clearBuffer_6 : decode cX5_clearBuffer 6 = .ok (.getfield 147, 3) := by decide +kernel
theorem dX5_clearBuffer_9 : decode cX5_clearBuffer 9 = .ok (.istore_n 1, 1) := by decide +kernel
theorem dX5_clearBuffer_10 : decode cX5_clearBuffer 10 = .ok (.aload_n 0, 1) := by decide +kernel
theorem dX5_clearBuffer_11 : decode cX5_clearBuffer 11 = .ok (.iconst 0, 1) := by decide +kernel
theorem dX5_clearBuffer_12 : decode cX5_clearBuffer 12 = .ok (.putfield 147, 3) := by decide +kernel
theorem dX5_clearBuffer_15 : decode cX5_clearBuffer 15 = .ok (.iload_n 1, 1) := by decide +kernel
theorem dX5_clearBuffer_16 : decode cX5_clearBuffer 16 = .ok (.ireturn, 1) := by decide +kernel
set_option maxRecDepth 20000 in
theorem ggX5_isAt_X5_in : GoodIn wsX5_isAt wsX5_in := goodIn_r _ [7] (by decide +kernel) (by decide +kernel)
set_option maxRecDepth 20000 in
theorem gX5_isAt_X5_in : GoodIn wsX5_isAt (va_wsS RX5 42 yX5_in wsX5_in) := goodIn_app (goodIn_of _ (by decide +kernel)) ggX5_isAt_X5_in
theorem dX5_isAt_0 : decode cX5_isAt 0 = .ok (.aload_n 0, 1) := by decide +kernel
theorem dX5_isAt_1 : decode cX5_isAt 1 = .ok (.getfield 150, 3) := by decide +kernel
theorem dX5_isAt_4 : decode cX5_isAt 4 = .ok (.aload_n 0, 1) := by decide +kernel
theorem dX5_isAt_5 : decode cX5_isAt 5 = .ok (.getfield 147, 3) := by decide +kernel
theorem dX5_isAt_8 : decode cX5_isAt 8 = .ok (.if_icmp .ge 24, 3) := by decide +kernel
theorem dX5_isAt_11 : decode cX5_isAt 11 = .ok (.aload_n 0, 1) := by decide +kernel
theorem dX5_isAt_12 : decode cX5_isAt 12 = .ok (.getfield 26, 3) := by decide +kernel
theorem dX5_isAt_15 : decode cX5_isAt 15 = .ok (.aload_n 0, 1) := by decide +kernel
theorem dX5_isAt_16 : decode cX5_isAt 16 = .ok (.getfield 150, 3) := by decide +kernel
theorem dX5_isAt_19 : decode cX5_isAt 19 = .ok (.iaload, 1) := by decide +kernel
theorem dX5_isAt_20 : decode cX5_isAt 20 = .ok (.iload_n 1, 1) := by decide +kernel
theorem dX5_isAt_21 : decode cX5_isAt 21 = .ok (.iload_n 2, 1) := by decide +kernel
theorem dX5_isAt_22 : decode cX5_isAt 22 = .ok (.invokestatic 42, 3) := by decide +kernel
theorem dX5_isAt_25 : decode cX5_isAt 25 = .ok (.ifCond .eq 7, 3) := by decide +kernel
theorem dX5_isAt_28 : decode cX5_isAt 28 = .ok (.iconst 1, 1) := by decide +kernel
theorem dX5_isAt_29 : decode cX5_isAt 29 = .ok (.goto 4, 3) := by decide +kernel
theorem dX5_isAt_32 : decode cX5_isAt 32 = .ok (.iconst 0, 1) := by decide +kernel
theorem dX5_isAt_33 : decode cX5_isAt 33 = .ok (.ireturn, 1) := by decide +kernel
set_option maxRecDepth 20000 in
theorem ggX5_takes_X5_isAt : GoodIn wsX5_takes wsX5_isAt := goodIn_r _ [6, 1, 7, 8, 9, 10, 5, 11, 12, 13, 14, 15, 16, 17, 18, 19, 20, 21, 22, 23, 24, 25, 26, 27, 28, 29] (by decide +kernel) (by decide +kernel)
set_option maxRecDepth 20000 in
theorem gX5_takes_X5_isAt : GoodIn wsX5_takes (wsV RX5 153 RX5 yX5_isAt wsX5_isAt) := goodIn_app (goodIn_of _ (by decide +kernel)) ggX5_takes_X5_isAt
theorem dX5_takes_0 : decode cX5_takes 0 = .ok (.aload_n 0, 1) := by decide +kernel
theorem dX5_takes_1 : decode cX5_takes 1 = .ok (.iload_n 1, 1) := by decide +kernel
theorem dX5_takes_2 : decode cX5_takes 2 = .ok (.iload_n 1, 1) := by decide +kernel
theorem dX5_takes_3 : decode cX5_takes 3 = .ok (.invokevirtual 153, 3) := by decide +kernel
theorem dX5_takes_6 : decode cX5_takes 6 = .ok (.istore_n 2, 1) := by decide +kernel
theorem dX5_takes_7 : decode cX5_takes 7 = .ok (.aload_n 0, 1) := by decide +kernel
theorem dX5_takes_8 : decode cX5_takes 8 = .ok (.dup, 1) := by decide +kernel
theorem dX5_takes_9 : decode cX5_takes 9 = .ok (.getfield 150, 3) := by decide +kernel
theorem dX5_takes_12 : decode cX5_takes 12 = .ok (.iload_n 2, 1) := by decide +kernel
theorem dX5_takes_13 : decode cX5_takes 13 = .ok (.ifCond .eq 7, 3) := by decide +kernel
theorem dX5_takes_16 : decode cX5_takes 16 = .ok (.iconst 1, 1) := by decide +kernel
theorem dX5_takes_17 : decode cX5_takes 17 = .ok (.goto 4, 3) := by decide +kernel
theorem dX5_takes_20 : decode cX5_takes 20 = .ok (.iconst 0, 1) := by decide +kernel
theorem dX5_takes_21 : decode cX5_takes 21 = .ok (.iadd, 1) := by decide +kernel
theorem dX5_takes_22 : decode cX5_takes 22 = .ok (.putfield 150, 3) := by decide +kernel
theorem dX5_takes_25 : decode cX5_takes 25 = .ok (.iload_n 2, 1) := by decide +kernel
theorem dX5_takes_26 : decode cX5_takes 26 = .ok (.ireturn, 1) := by decide +kernel
set_option maxRecDepth 20000 in
theorem ggX5_reads_X5_isAt : GoodIn wsX5_reads wsX5_isAt := goodIn_r _ [8, 2, 9, 1, 10, 11, 7, 12, 13, 14, 15, 16, 17, 18, 19, 20, 21, 22, 23, 24, 25, 26, 27, 28, 29, 30] (by decide +kernel) (by decide +kernel)
set_option maxRecDepth 20000 in
theorem gX5_reads_X5_isAt : GoodIn wsX5_reads (wsV RX5 153 RX5 yX5_isAt wsX5_isAt) := goodIn_app (goodIn_of _ (by decide +kernel)) ggX5_reads_X5_isAt
theorem dX5_reads_0 : decode cX5_reads 0 = .ok (.aload_n 0, 1) := by decide +kernel
theorem dX5_reads_1 : decode cX5_reads 1 = .ok (.iload_n 1, 1) := by decide +kernel
theorem dX5_reads_2 : decode cX5_reads 2 = .ok (.ifCond .le 8, 3) := by decide +kernel
theorem dX5_reads_5 : decode cX5_reads 5 = .ok (.bipush 49, 2) := by decide +kernel
theorem dX5_reads_7 : decode cX5_reads 7 = .ok (.goto 5, 3) := by decide +kernel
theorem dX5_reads_10 : decode cX5_reads 10 = .ok (.bipush 48, 2) := by decide +kernel
theorem dX5_reads_12 : decode cX5_reads 12 = .ok (.bipush 57, 2) := by decide +kernel
theorem dX5_reads_14 : decode cX5_reads 14 = .ok (.invokevirtual 153, 3) := by decide +kernel
theorem dX5_reads_17 : decode cX5_reads 17 = .ok (.ifCond .eq 19, 3) := by decide +kernel
theorem dX5_reads_20 : decode cX5_reads 20 = .ok (.aload_n 0, 1) := by decide +kernel
theorem dX5_reads_21 : decode cX5_reads 21 = .ok (.getfield 26, 3) := by decide +kernel
theorem dX5_reads_24 : decode cX5_reads 24 = .ok (.aload_n 0, 1) := by decide +kernel
theorem dX5_reads_25 : decode cX5_reads 25 = .ok (.getfield 150, 3) := by decide +kernel
theorem dX5_reads_28 : decode cX5_reads 28 = .ok (.iaload, 1) := by decide +kernel
theorem dX5_reads_29 : decode cX5_reads 29 = .ok (.bipush 48, 2) := by decide +kernel
theorem dX5_reads_31 : decode cX5_reads 31 = .ok (.isub, 1) := by decide +kernel
theorem dX5_reads_32 : decode cX5_reads 32 = .ok (.iload_n 2, 1) := by decide +kernel
theorem dX5_reads_33 : decode cX5_reads 33 = .ok (.if_icmp .le 5, 3) := by decide +kernel
theorem dX5_reads_36 : decode cX5_reads 36 = .ok (.iconst 0, 1) := by decide +kernel
theorem dX5_reads_37 : decode cX5_reads 37 = .ok (.ireturn, 1) := by decide +kernel
theorem dX5_reads_38 : decode cX5_reads 38 = .ok (.aload_n 0, 1) := by decide +kernel
theorem dX5_reads_39 : decode cX5_reads 39 = .ok (.aload_n 0, 1) := by decide +kernel
theorem dX5_reads_40 : decode cX5_reads 40 = .ok (.getfield 26, 3) := by decide +kernel
theorem dX5_reads_43 : decode cX5_reads 43 = .ok (.aload_n 0, 1) := by decide +kernel
theorem dX5_reads_44 : decode cX5_reads 44 = .ok (.getfield 150, 3) := by decide +kernel
theorem dX5_reads_47 : decode cX5_reads 47 = .ok (.iaload, 1) := by decide +kernel
theorem dX5_reads_48 : decode cX5_reads 48 = .ok (.bipush 48, 2) := by decide +kernel
theorem dX5_reads_50 : decode cX5_reads 50 = .ok (.isub, 1) := by decide +kernel
theorem dX5_reads_51 : decode cX5_reads 51 = .ok (.putfield 156, 3) := by decide +kernel
theorem dX5_reads_54 : decode cX5_reads 54 = .ok (.aload_n 0, 1) := by decide +kernel
theorem dX5_reads_55 : decode cX5_reads 55 = .ok (.dup, 1) := by decide +kernel
theorem dX5_reads_56 : decode cX5_reads 56 = .ok (.getfield 150, 3) := by decide +kernel
theorem dX5_reads_59 : decode cX5_reads 59 = .ok (.iconst 1, 1) := by decide +kernel
theorem dX5_reads_60 : decode cX5_reads 60 = .ok (.iadd, 1) := by decide +kernel
theorem dX5_reads_61 : decode cX5_reads 61 = .ok (.putfield 150, 3) := by decide +kernel
theorem dX5_reads_64 : decode cX5_reads 64 = .ok (.aload_n 0, 1) := by decide +kernel
theorem dX5_reads_65 : decode cX5_reads 65 = .ok (.getfield 156, 3) := by decide +kernel
theorem dX5_reads_68 : decode cX5_reads 68 = .ok (.ifCond .le 75, 3) := by decide +kernel
theorem dX5_reads_71 : decode cX5_reads 71 = .ok (.aload_n 0, 1) := by decide +kernel
theorem dX5_reads_72 : decode cX5_reads 72 = .ok (.bipush 48, 2) := by decide +kernel
theorem dX5_reads_74 : decode cX5_reads 74 = .ok (.bipush 57, 2) := by decide +kernel
theorem dX5_reads_76 : decode cX5_reads 76 = .ok (.invokevirtual 153, 3) := by decide +kernel
theorem dX5_reads_79 : decode cX5_reads 79 = .ok (.ifCond .eq 64, 3) := by decide +kernel
theorem dX5_reads_82 : decode cX5_reads 82 = .ok (.bipush 10, 2) := by decide +kernel
theorem dX5_reads_84 : decode cX5_reads 84 = .ok (.aload_n 0, 1) := by decide +kernel
theorem dX5_reads_85 : decode cX5_reads 85 = .ok (.getfield 156, 3) := by decide +kernel
theorem dX5_reads_88 : decode cX5_reads 88 = .ok (.imul, 1) := by decide +kernel
theorem dX5_reads_89 : decode cX5_reads 89 = .ok (.aload_n 0, 1) := by decide +kernel
theorem dX5_reads_90 : decode cX5_reads 90 = .ok (.getfield 26, 3) := by decide +kernel
theorem dX5_reads_93 : decode cX5_reads 93 = .ok (.aload_n 0, 1) := by decide +kernel
theorem dX5_reads_94 : decode cX5_reads 94 = .ok (.getfield 150, 3) := by decide +kernel
theorem dX5_reads_97 : decode cX5_reads 97 = .ok (.iaload, 1) := by decide +kernel
theorem dX5_reads_98 : decode cX5_reads 98 = .ok (.iadd, 1) := by decide +kernel
theorem dX5_reads_99 : decode cX5_reads 99 = .ok (.bipush 48, 2) := by decide +kernel
theorem dX5_reads_101 : decode cX5_reads 101 = .ok (.isub, 1) := by decide +kernel
theorem dX5_reads_102 : decode cX5_reads 102 = .ok (.iload_n 2, 1) := by decide +kernel
theorem dX5_reads_103 : decode cX5_reads 103 = .ok (.if_icmp .gt 40, 3) := by decide +kernel
theorem dX5_reads_106 : decode cX5_reads 106 = .ok (.aload_n 0, 1) := by decide +kernel
theorem dX5_reads_107 : decode cX5_reads 107 = .ok (.bipush 10, 2) := by decide +kernel
theorem dX5_reads_109 : decode cX5_reads 109 = .ok (.aload_n 0, 1) := by decide +kernel
theorem dX5_reads_110 : decode cX5_reads 110 = .ok (.getfield 156, 3) := by decide +kernel
theorem dX5_reads_113 : decode cX5_reads 113 = .ok (.imul, 1) := by decide +kernel
theorem dX5_reads_114 : decode cX5_reads 114 = .ok (.aload_n 0, 1) := by decide +kernel
theorem dX5_reads_115 : decode cX5_reads 115 = .ok (.getfield 26, 3) := by decide +kernel
theorem dX5_reads_118 : decode cX5_reads 118 = .ok (.aload_n 0, 1) := by decide +kernel
theorem dX5_reads_119 : decode cX5_reads 119 = .ok (.getfield 150, 3) := by decide +kernel
theorem dX5_reads_122 : decode cX5_reads 122 = .ok (.iaload, 1) := by decide +kernel
theorem dX5_reads_123 : decode cX5_reads 123 = .ok (.iadd, 1) := by decide +kernel
theorem dX5_reads_124 : decode cX5_reads 124 = .ok (.bipush 48, 2) := by decide +kernel
theorem dX5_reads_126 : decode cX5_reads 126 = .ok (.isub, 1) := by decide +kernel
theorem dX5_reads_127 : decode cX5_reads 127 = .ok (.putfield 156, 3) := by decide +kernel
theorem dX5_reads_130 : decode cX5_reads 130 = .ok (.aload_n 0, 1) := by decide +kernel
theorem dX5_reads_131 : decode cX5_reads 131 = .ok (.dup, 1) := by decide +kernel
theorem dX5_reads_132 : decode cX5_reads 132 = .ok (.getfield 150, 3) := by decide +kernel
theorem dX5_reads_135 : decode cX5_reads 135 = .ok (.iconst 1, 1) := by decide +kernel
theorem dX5_reads_136 : decode cX5_reads 136 = .ok (.iadd, 1) := by decide +kernel
theorem dX5_reads_137 : decode cX5_reads 137 = .ok (.putfield 150, 3) := by decide +kernel
theorem dX5_reads_140 : decode cX5_reads 140 = .ok (.goto (-76), 3) := by decide +kernel
theorem dX5_reads_143 : decode cX5_reads 143 = .ok (.aload_n 0, 1) := by decide +kernel
theorem dX5_reads_144 : decode cX5_reads 144 = .ok (.getfield 156, 3) := by decide +kernel
theorem dX5_reads_147 : decode cX5_reads 147 = .ok (.iload_n 1, 1) := by decide +kernel
theorem dX5_reads_148 : decode cX5_reads 148 = .ok (.if_icmp .lt 7, 3) := by decide +kernel
theorem dX5_reads_151 : decode cX5_reads 151 = .ok (.iconst 1, 1) := by decide +kernel
theorem dX5_reads_152 : decode cX5_reads 152 = .ok (.goto 4, 3) := by decide +kernel
theorem dX5_reads_155 : decode cX5_reads 155 = .ok (.iconst 0, 1) := by decide +kernel
theorem dX5_reads_156 : decode cX5_reads 156 = .ok (.ireturn, 1) := by decide +kernel
set_option maxRecDepth 20000 in
theorem ggX5_readNumbers_X5_reads : GoodIn wsX5_readNumbers wsX5_reads := goodIn_r _ [9, 10, 11, 4, 12, 13, 14, 8, 15, 16, 17, 18, 19, 24, 25, 26, 27, 28, 29, 30, 31, 32, 33, 34, 35, 36, 37, 38, 39, 40, 41] (by decide +kernel) (by decide +kernel)
set_option maxRecDepth 20000 in
theorem gX5_readNumbers_X5_reads : GoodIn wsX5_readNumbers (wsV RX5 159 RX5 yX5_reads wsX5_reads) := goodIn_app (goodIn_of _ (by decide +kernel)) ggX5_readNumbers_X5_reads
set_option maxRecDepth 20000 in
theorem ggX5_readNumbers_X5_takes : GoodIn wsX5_readNumbers wsX5_takes := goodIn_r _ [23, 11, 12, 13, 14, 8, 15, 16, 10, 17, 18, 19, 24, 25, 26, 27, 28, 29, 30, 31, 32, 33, 34, 35, 36, 37, 38, 39, 40, 41] (by decide +kernel) (by decide +kernel)
set_option maxRecDepth 20000 in
theorem gX5_readNumbers_X5_takes : GoodIn wsX5_readNumbers (wsV RX5 165 RX5 yX5_takes wsX5_takes) := goodIn_app (goodIn_of _ (by decide +kernel)) ggX5_readNumbers_X5_takes
theorem dX5_readNumbers_0 : decode cX5_readNumbers 0 = .ok (.iload_n 1, 1) := by decide +kernel
theorem dX5_readNumbers_1 : decode cX5_readNumbers 1 = .ok (.lookupswitch 175 #[(98, 51), (104, 117), (114, 167), (117, 110), (119, 61)], 51) := by decide +kernel
theorem dX5_readNumbers_52 : decode cX5_readNumbers 52 = .ok (.aload_n 0, 1) := by decide +kernel
theorem dX5_readNumbers_53 : decode cX5_readNumbers 53 = .ok (.sipush 500, 3) := by decide +kernel
theorem dX5_readNumbers_56 : decode cX5_readNumbers 56 = .ok (.ldc 112, 2) := by decide +kernel
theorem dX5_readNumbers_58 : decode cX5_readNumbers 58 = .ok (.invokevirtual 159, 3) := by decide +kernel
theorem dX5_readNumbers_61 : decode cX5_readNumbers 61 = .ok (.ireturn, 1) := by decide +kernel
theorem dX5_readNumbers_62 : decode cX5_readNumbers 62 = .ok (.aload_n 0, 1) := by decide +kernel
theorem dX5_readNumbers_63 : decode cX5_readNumbers 63 = .ok (.iconst 0, 1) := by decide +kernel
theorem dX5_readNumbers_64 : decode cX5_readNumbers 64 = .ok (.iconst 2, 1) := by decide +kernel
theorem dX5_readNumbers_65 : decode cX5_readNumbers 65 = .ok (.invokevirtual 159, 3) := by decide +kernel
theorem dX5_readNumbers_68 : decode cX5_readNumbers 68 = .ok (.ifCond .ne 5, 3) := by decide +kernel
theorem dX5_readNumbers_71 : decode cX5_readNumbers 71 = .ok (.iconst 0, 1) := by decide +kernel
theorem dX5_readNumbers_72 : decode cX5_readNumbers 72 = .ok (.ireturn, 1) := by decide +kernel
theorem dX5_readNumbers_73 : decode cX5_readNumbers 73 = .ok (.aload_n 0, 1) := by decide +kernel
theorem dX5_readNumbers_74 : decode cX5_readNumbers 74 = .ok (.getfield 32, 3) := by decide +kernel
theorem dX5_readNumbers_77 : decode cX5_readNumbers 77 = .ok (.aload_n 0, 1) := by decide +kernel
theorem dX5_readNumbers_78 : decode cX5_readNumbers 78 = .ok (.getfield 162, 3) := by decide +kernel
theorem dX5_readNumbers_81 : decode cX5_readNumbers 81 = .ok (.aload_n 0, 1) := by decide +kernel
theorem dX5_readNumbers_82 : decode cX5_readNumbers 82 = .ok (.getfield 156, 3) := by decide +kernel
theorem dX5_readNumbers_85 : decode cX5_readNumbers 85 = .ok (.iastore, 1) := by decide +kernel
theorem dX5_readNumbers_86 : decode cX5_readNumbers 86 = .ok (.aload_n 0, 1) := by decide +kernel
theorem dX5_readNumbers_87 : decode cX5_readNumbers 87 = .ok (.bipush 43, 2) := by decide +kernel
theorem dX5_readNumbers_89 : decode cX5_readNumbers 89 = .ok (.invokevirtual 165, 3) := by decide +kernel
theorem dX5_readNumbers_92 : decode cX5_readNumbers 92 = .ok (.ifCond .eq 17, 3) := by decide +kernel
theorem dX5_readNumbers_95 : decode cX5_readNumbers 95 = .ok (.aload_n 0, 1) := by decide +kernel
theorem dX5_readNumbers_96 : decode cX5_readNumbers 96 = .ok (.iconst 0, 1) := by decide +kernel
theorem dX5_readNumbers_97 : decode cX5_readNumbers 97 = .ok (.bipush 19, 2) := by decide +kernel
theorem dX5_readNumbers_99 : decode cX5_readNumbers 99 = .ok (.invokevirtual 159, 3) := by decide +kernel
theorem dX5_readNumbers_102 : decode cX5_readNumbers 102 = .ok (.ifCond .eq 7, 3) := by decide +kernel
theorem dX5_readNumbers_105 : decode cX5_readNumbers 105 = .ok (.iconst 1, 1) := by decide +kernel
theorem dX5_readNumbers_106 : decode cX5_readNumbers 106 = .ok (.goto 4, 3) := by decide +kernel
theorem dX5_readNumbers_109 : decode cX5_readNumbers 109 = .ok (.iconst 0, 1) := by decide +kernel
theorem dX5_readNumbers_110 : decode cX5_readNumbers 110 = .ok (.ireturn, 1) := by decide +kernel
theorem dX5_readNumbers_111 : decode cX5_readNumbers 111 = .ok (.aload_n 0, 1) := by decide +kernel
theorem dX5_readNumbers_112 : decode cX5_readNumbers 112 = .ok (.iconst 0, 1) := by decide +kernel
theorem dX5_readNumbers_113 : decode cX5_readNumbers 113 = .ok (.iconst 2, 1) := by decide +kernel
theorem dX5_readNumbers_114 : decode cX5_readNumbers 114 = .ok (.invokevirtual 159, 3) := by decide +kernel
theorem dX5_readNumbers_117 : decode cX5_readNumbers 117 = .ok (.ireturn, 1) := by decide +kernel
theorem dX5_readNumbers_118 : decode cX5_readNumbers 118 = .ok (.aload_n 0, 1) := by decide +kernel
theorem dX5_readNumbers_119 : decode cX5_readNumbers 119 = .ok (.iconst 0, 1) := by decide +kernel
theorem dX5_readNumbers_120 : decode cX5_readNumbers 120 = .ok (.bipush 19, 2) := by decide +kernel
theorem dX5_readNumbers_122 : decode cX5_readNumbers 122 = .ok (.invokevirtual 159, 3) := by decide +kernel
theorem dX5_readNumbers_125 : decode cX5_readNumbers 125 = .ok (.ifCond .ne 5, 3) := by decide +kernel
theorem dX5_readNumbers_128 : decode cX5_readNumbers 128 = .ok (.iconst 0, 1) := by decide +kernel
theorem dX5_readNumbers_129 : decode cX5_readNumbers 129 = .ok (.ireturn, 1) := by decide +kernel
theorem dX5_readNumbers_130 : decode cX5_readNumbers 130 = .ok (.aload_n 0, 1) := by decide +kernel
theorem dX5_readNumbers_131 : decode cX5_readNumbers 131 = .ok (.getfield 32, 3) := by decide +kernel
theorem dX5_readNumbers_134 : decode cX5_readNumbers 134 = .ok (.aload_n 0, 1) := by decide +kernel
theorem dX5_readNumbers_135 : decode cX5_readNumbers 135 = .ok (.getfield 162, 3) := by decide +kernel
theorem dX5_readNumbers_138 : decode cX5_readNumbers 138 = .ok (.aload_n 0, 1) := by decide +kernel
theorem dX5_readNumbers_139 : decode cX5_readNumbers 139 = .ok (.getfield 156, 3) := by decide +kernel
theorem dX5_readNumbers_142 : decode cX5_readNumbers 142 = .ok (.iastore, 1) := by decide +kernel
theorem dX5_readNumbers_143 : decode cX5_readNumbers 143 = .ok (.aload_n 0, 1) := by decide +kernel
theorem dX5_readNumbers_144 : decode cX5_readNumbers 144 = .ok (.bipush 44, 2) := by decide +kernel
theorem dX5_readNumbers_146 : decode cX5_readNumbers 146 = .ok (.invokevirtual 165, 3) := by decide +kernel
theorem dX5_readNumbers_149 : decode cX5_readNumbers 149 = .ok (.ifCond .eq 17, 3) := by decide +kernel
theorem dX5_readNumbers_152 : decode cX5_readNumbers 152 = .ok (.aload_n 0, 1) := by decide +kernel
theorem dX5_readNumbers_153 : decode cX5_readNumbers 153 = .ok (.iconst 1, 1) := by decide +kernel
theorem dX5_readNumbers_154 : decode cX5_readNumbers 154 = .ok (.bipush 60, 2) := by decide +kernel
theorem dX5_readNumbers_156 : decode cX5_readNumbers 156 = .ok (.invokevirtual 159, 3) := by decide +kernel
theorem dX5_readNumbers_159 : decode cX5_readNumbers 159 = .ok (.ifCond .eq 7, 3) := by decide +kernel
theorem dX5_readNumbers_162 : decode cX5_readNumbers 162 = .ok (.iconst 1, 1) := by decide +kernel
theorem dX5_readNumbers_163 : decode cX5_readNumbers 163 = .ok (.goto 4, 3) := by decide +kernel
theorem dX5_readNumbers_166 : decode cX5_readNumbers 166 = .ok (.iconst 0, 1) := by decide +kernel
theorem dX5_readNumbers_167 : decode cX5_readNumbers 167 = .ok (.ireturn, 1) := by decide +kernel
theorem dX5_readNumbers_168 : decode cX5_readNumbers 168 = .ok (.aload_n 0, 1) := by decide +kernel
theorem dX5_readNumbers_169 : decode cX5_readNumbers 169 = .ok (.iconst 1, 1) := by decide +kernel
theorem dX5_readNumbers_170 : decode cX5_readNumbers 170 = .ok (.bipush 60, 2) := by decide +kernel
theorem dX5_readNumbers_172 : decode cX5_readNumbers 172 = .ok (.invokevirtual 159, 3) := by decide +kernel
theorem dX5_readNumbers_175 : decode cX5_readNumbers 175 = .ok (.ireturn, 1) := by decide +kernel
theorem dX5_readNumbers_176 : decode cX5_readNumbers 176 = .ok (.iconst 0, 1) := by decide +kernel
theorem dX5_readNumbers_177 : decode cX5_readNumbers 177 = .ok (.ireturn, 1) := by decide +kernel
set_option maxRecDepth 20000 in
theorem ggX5_readOrder_X5_readNumbers : GoodIn wsX5_readOrder wsX5_readNumbers := goodIn_r _ [12, 13, 14, 5, 7, 15, 16, 17, 11, 18, 3, 1, 19, 20, 21, 22, 2, 23, 24, 25, 26, 27, 28, 29, 30, 31, 32, 33, 34, 35, 36, 37, 38, 39, 40, 41, 42, 43, 44, 45, 46, 47] (by decide +kernel) (by decide +kernel)
set_option maxRecDepth 20000 in
theorem gX5_readOrder_X5_readNumbers : GoodIn wsX5_readOrder (wsV RX5 168 RX5 yX5_readNumbers wsX5_readNumbers) := goodIn_app (goodIn_of _ (by decide +kernel)) ggX5_readOrder_X5_readNumbers
theorem dX5_readOrder_0 : decode cX5_readOrder 0 = .ok (.aload_n 0, 1) := by decide +kernel
theorem dX5_readOrder_1 : decode cX5_readOrder 1 = .ok (.getfield 150, 3) := by decide +kernel
theorem dX5_readOrder_4 : decode cX5_readOrder 4 = .ok (.aload_n 0, 1) := by decide +kernel
theorem dX5_readOrder_5 : decode cX5_readOrder 5 = .ok (.getfield 147, 3) := by decide +kernel
theorem dX5_readOrder_8 : decode cX5_readOrder 8 = .ok (.if_icmp .ge 15, 3) := by decide +kernel
theorem dX5_readOrder_11 : decode cX5_readOrder 11 = .ok (.aload_n 0, 1) := by decide +kernel
theorem dX5_readOrder_12 : decode cX5_readOrder 12 = .ok (.getfield 26, 3) := by decide +kernel
theorem dX5_readOrder_15 : decode cX5_readOrder 15 = .ok (.aload_n 0, 1) := by decide +kernel
theorem dX5_readOrder_16 : decode cX5_readOrder 16 = .ok (.getfield 150, 3) := by decide +kernel
theorem dX5_readOrder_19 : decode cX5_readOrder 19 = .ok (.iaload, 1) := by decide +kernel
theorem dX5_readOrder_20 : decode cX5_readOrder 20 = .ok (.goto 4, 3) := by decide +kernel
theorem dX5_readOrder_23 : decode cX5_readOrder 23 = .ok (.iconst 0, 1) := by decide +kernel
theorem dX5_readOrder_24 : decode cX5_readOrder 24 = .ok (.istore_n 1, 1) := by decide +kernel
theorem dX5_readOrder_25 : decode cX5_readOrder 25 = .ok (.iload_n 1, 1) := by decide +kernel
theorem dX5_readOrder_26 : decode cX5_readOrder 26 = .ok (.bipush 98, 2) := by decide +kernel
theorem dX5_readOrder_28 : decode cX5_readOrder 28 = .ok (.if_icmp .eq 27, 3) := by decide +kernel
theorem dX5_readOrder_31 : decode cX5_readOrder 31 = .ok (.iload_n 1, 1) := by decide +kernel
theorem dX5_readOrder_32 : decode cX5_readOrder 32 = .ok (.bipush 119, 2) := by decide +kernel
theorem dX5_readOrder_34 : decode cX5_readOrder 34 = .ok (.if_icmp .eq 21, 3) := by decide +kernel
theorem dX5_readOrder_37 : decode cX5_readOrder 37 = .ok (.iload_n 1, 1) := by decide +kernel
theorem dX5_readOrder_38 : decode cX5_readOrder 38 = .ok (.bipush 117, 2) := by decide +kernel
theorem dX5_readOrder_40 : decode cX5_readOrder 40 = .ok (.if_icmp .eq 15, 3) := by decide +kernel
theorem dX5_readOrder_43 : decode cX5_readOrder 43 = .ok (.iload_n 1, 1) := by decide +kernel
theorem dX5_readOrder_44 : decode cX5_readOrder 44 = .ok (.bipush 104, 2) := by decide +kernel
theorem dX5_readOrder_46 : decode cX5_readOrder 46 = .ok (.if_icmp .eq 9, 3) := by decide +kernel
theorem dX5_readOrder_49 : decode cX5_readOrder 49 = .ok (.iload_n 1, 1) := by decide +kernel
theorem dX5_readOrder_50 : decode cX5_readOrder 50 = .ok (.bipush 114, 2) := by decide +kernel
theorem dX5_readOrder_52 : decode cX5_readOrder 52 = .ok (.if_icmp .ne 7, 3) := by decide +kernel
theorem dX5_readOrder_55 : decode cX5_readOrder 55 = .ok (.iconst 1, 1) := by decide +kernel
theorem dX5_readOrder_56 : decode cX5_readOrder 56 = .ok (.goto 4, 3) := by decide +kernel
theorem dX5_readOrder_59 : decode cX5_readOrder 59 = .ok (.iconst 0, 1) := by decide +kernel
theorem dX5_readOrder_60 : decode cX5_readOrder 60 = .ok (.istore_n 2, 1) := by decide +kernel
theorem dX5_readOrder_61 : decode cX5_readOrder 61 = .ok (.aload_n 0, 1) := by decide +kernel
theorem dX5_readOrder_62 : decode cX5_readOrder 62 = .ok (.dup, 1) := by decide +kernel
theorem dX5_readOrder_63 : decode cX5_readOrder 63 = .ok (.getfield 150, 3) := by decide +kernel
theorem dX5_readOrder_66 : decode cX5_readOrder 66 = .ok (.iload_n 2, 1) := by decide +kernel
theorem dX5_readOrder_67 : decode cX5_readOrder 67 = .ok (.ifCond .eq 7, 3) := by decide +kernel
theorem dX5_readOrder_70 : decode cX5_readOrder 70 = .ok (.iconst 1, 1) := by decide +kernel
theorem dX5_readOrder_71 : decode cX5_readOrder 71 = .ok (.goto 4, 3) := by decide +kernel
theorem dX5_readOrder_74 : decode cX5_readOrder 74 = .ok (.iconst 0, 1) := by decide +kernel
theorem dX5_readOrder_75 : decode cX5_readOrder 75 = .ok (.iadd, 1) := by decide +kernel
theorem dX5_readOrder_76 : decode cX5_readOrder 76 = .ok (.putfield 150, 3) := by decide +kernel
theorem dX5_readOrder_79 : decode cX5_readOrder 79 = .ok (.iload_n 2, 1) := by decide +kernel
theorem dX5_readOrder_80 : decode cX5_readOrder 80 = .ok (.ifCond .eq 11, 3) := by decide +kernel
theorem dX5_readOrder_83 : decode cX5_readOrder 83 = .ok (.aload_n 0, 1) := by decide +kernel
theorem dX5_readOrder_84 : decode cX5_readOrder 84 = .ok (.iload_n 1, 1) := by decide +kernel
theorem dX5_readOrder_85 : decode cX5_readOrder 85 = .ok (.invokevirtual 168, 3) := by decide +kernel
theorem dX5_readOrder_88 : decode cX5_readOrder 88 = .ok (.ifCond .ne 5, 3) := by decide +kernel
theorem dX5_readOrder_91 : decode cX5_readOrder 91 = .ok (.iconst 0, 1) := by decide +kernel
theorem dX5_readOrder_92 : decode cX5_readOrder 92 = .ok (.ireturn, 1) := by decide +kernel
theorem dX5_readOrder_93 : decode cX5_readOrder 93 = .ok (.aload_n 0, 1) := by decide +kernel
theorem dX5_readOrder_94 : decode cX5_readOrder 94 = .ok (.getfield 29, 3) := by decide +kernel
theorem dX5_readOrder_97 : decode cX5_readOrder 97 = .ok (.aload_n 0, 1) := by decide +kernel
theorem dX5_readOrder_98 : decode cX5_readOrder 98 = .ok (.getfield 162, 3) := by decide +kernel
theorem dX5_readOrder_101 : decode cX5_readOrder 101 = .ok (.iload_n 1, 1) := by decide +kernel
theorem dX5_readOrder_102 : decode cX5_readOrder 102 = .ok (.iastore, 1) := by decide +kernel
theorem dX5_readOrder_103 : decode cX5_readOrder 103 = .ok (.aload_n 0, 1) := by decide +kernel
theorem dX5_readOrder_104 : decode cX5_readOrder 104 = .ok (.getfield 35, 3) := by decide +kernel
theorem dX5_readOrder_107 : decode cX5_readOrder 107 = .ok (.aload_n 0, 1) := by decide +kernel
theorem dX5_readOrder_108 : decode cX5_readOrder 108 = .ok (.getfield 162, 3) := by decide +kernel
theorem dX5_readOrder_111 : decode cX5_readOrder 111 = .ok (.aload_n 0, 1) := by decide +kernel
theorem dX5_readOrder_112 : decode cX5_readOrder 112 = .ok (.getfield 156, 3) := by decide +kernel
theorem dX5_readOrder_115 : decode cX5_readOrder 115 = .ok (.iastore, 1) := by decide +kernel
theorem dX5_readOrder_116 : decode cX5_readOrder 116 = .ok (.aload_n 0, 1) := by decide +kernel
theorem dX5_readOrder_117 : decode cX5_readOrder 117 = .ok (.dup, 1) := by decide +kernel
theorem dX5_readOrder_118 : decode cX5_readOrder 118 = .ok (.getfield 162, 3) := by decide +kernel
theorem dX5_readOrder_121 : decode cX5_readOrder 121 = .ok (.iconst 1, 1) := by decide +kernel
theorem dX5_readOrder_122 : decode cX5_readOrder 122 = .ok (.iadd, 1) := by decide +kernel
theorem dX5_readOrder_123 : decode cX5_readOrder 123 = .ok (.putfield 162, 3) := by decide +kernel
theorem dX5_readOrder_126 : decode cX5_readOrder 126 = .ok (.iconst 1, 1) := by decide +kernel
theorem dX5_readOrder_127 : decode cX5_readOrder 127 = .ok (.ireturn, 1) := by decide +kernel
set_option maxRecDepth 20000 in
theorem ggX5_isComplete_X5_readOrder : GoodIn wsX5_isComplete wsX5_readOrder := goodIn_r _ [8, 1, 3, 9, 10, 2, 11, 12, 13, 14, 15, 7, 16, 17, 18, 19, 20, 21, 22, 23, 24, 25, 26, 27, 28, 29, 30, 31, 32, 33, 34, 35, 36, 37, 38, 39, 40, 41, 42, 43, 44, 45, 46, 47, 48, 49, 50, 51] (by decide +kernel) (by decide +kernel)
set_option maxRecDepth 20000 in
theorem gX5_isComplete_X5_readOrder : GoodIn wsX5_isComplete (wsV RX5 171 RX5 yX5_readOrder wsX5_readOrder) := goodIn_app (goodIn_of _ (by decide +kernel)) ggX5_isComplete_X5_readOrder
set_option maxRecDepth 20000 in
theorem ggX5_isComplete_X5_takes : GoodIn wsX5_isComplete wsX5_takes := goodIn_r _ [33, 1, 23, 24, 25, 7, 26, 3, 9, 27, 28, 29, 34, 35, 36, 37, 38, 39, 40, 41, 42, 43, 44, 45, 46, 47, 48, 49, 50, 51] (by decide +kernel) (by decide +kernel)
set_option maxRecDepth 20000 in
theorem gX5_isComplete_X5_takes : GoodIn wsX5_isComplete (wsV RX5 165 RX5 yX5_takes wsX5_takes) := goodIn_app (goodIn_of _ (by decide +kernel)) ggX5_isComplete_X5_takes
theorem dX5_isComplete_0 : decode cX5_isComplete 0 = .ok (.aload_n 0, 1) := by decide +kernel
theorem dX5_isComplete_1 : decode cX5_isComplete 1 = .ok (.iconst 0, 1) := by decide +kernel
theorem dX5_isComplete_2 : decode cX5_isComplete 2 = .ok (.putfield 150, 3) := by decide +kernel
theorem dX5_isComplete_5 : decode cX5_isComplete 5 = .ok (.aload_n 0, 1) := by decide +kernel
theorem dX5_isComplete_6 : decode cX5_isComplete 6 = .ok (.iconst 0, 1) := by decide +kernel
theorem dX5_isComplete_7 : decode cX5_isComplete 7 = .ok (.putfield 162, 3) := by decide +kernel
theorem dX5_isComplete_10 : decode cX5_isComplete 10 = .ok (.aload_n 0, 1) := by decide +kernel
theorem dX5_isComplete_11 : decode cX5_isComplete 11 = .ok (.invokevirtual 171, 3) := by decide +kernel
theorem dX5_isComplete_14 : decode cX5_isComplete 14 = .ok (.istore_n 1, 1) := by decide +kernel
theorem dX5_isComplete_15 : decode cX5_isComplete 15 = .ok (.iload_n 1, 1) := by decide +kernel
theorem dX5_isComplete_16 : decode cX5_isComplete 16 = .ok (.ifCond .eq 20, 3) := by decide +kernel
theorem dX5_isComplete_19 : decode cX5_isComplete 19 = .ok (.aload_n 0, 1) := by decide +kernel
theorem dX5_isComplete_20 : decode cX5_isComplete 20 = .ok (.bipush 59, 2) := by decide +kernel
theorem dX5_isComplete_22 : decode cX5_isComplete 22 = .ok (.invokevirtual 165, 3) := by decide +kernel
theorem dX5_isComplete_25 : decode cX5_isComplete 25 = .ok (.ifCond .eq 11, 3) := by decide +kernel
theorem dX5_isComplete_28 : decode cX5_isComplete 28 = .ok (.aload_n 0, 1) := by decide +kernel
theorem dX5_isComplete_29 : decode cX5_isComplete 29 = .ok (.invokevirtual 171, 3) := by decide +kernel
theorem dX5_isComplete_32 : decode cX5_isComplete 32 = .ok (.istore_n 1, 1) := by decide +kernel
theorem dX5_isComplete_33 : decode cX5_isComplete 33 = .ok (.goto (-18), 3) := by decide +kernel
theorem dX5_isComplete_36 : decode cX5_isComplete 36 = .ok (.iload_n 1, 1) := by decide +kernel
theorem dX5_isComplete_37 : decode cX5_isComplete 37 = .ok (.ifCond .eq 18, 3) := by decide +kernel
theorem dX5_isComplete_40 : decode cX5_isComplete 40 = .ok (.aload_n 0, 1) := by decide +kernel
theorem dX5_isComplete_41 : decode cX5_isComplete 41 = .ok (.getfield 150, 3) := by decide +kernel
theorem dX5_isComplete_44 : decode cX5_isComplete 44 = .ok (.aload_n 0, 1) := by decide +kernel
theorem dX5_isComplete_45 : decode cX5_isComplete 45 = .ok (.getfield 147, 3) := by decide +kernel
theorem dX5_isComplete_48 : decode cX5_isComplete 48 = .ok (.if_icmp .ne 7, 3) := by decide +kernel
theorem dX5_isComplete_51 : decode cX5_isComplete 51 = .ok (.iconst 1, 1) := by decide +kernel
theorem dX5_isComplete_52 : decode cX5_isComplete 52 = .ok (.goto 4, 3) := by decide +kernel
theorem dX5_isComplete_55 : decode cX5_isComplete 55 = .ok (.iconst 0, 1) := by decide +kernel
theorem dX5_isComplete_56 : decode cX5_isComplete 56 = .ok (.ireturn, 1) := by decide +kernel
set_option maxRecDepth 20000 in
theorem ggX5_firstError_X5_isComplete : GoodIn wsX5_firstError wsX5_isComplete := goodIn_r _ [8, 3, 9, 2, 10, 11, 12, 7, 13, 14, 15, 16, 17, 18, 19, 20, 21, 22, 23, 24, 25, 26, 27, 28, 29, 30, 31, 32, 33, 34, 35, 36, 37, 38, 39, 40, 41, 42, 43, 44, 45, 46, 47, 48, 49, 50, 51, 52, 53, 54, 55, 56] (by decide +kernel) (by decide +kernel)
set_option maxRecDepth 20000 in
theorem gX5_firstError_X5_isComplete : GoodIn wsX5_firstError (wsV RX5 175 RX5 yX5_isComplete wsX5_isComplete) := goodIn_app (goodIn_of _ (by decide +kernel)) ggX5_firstError_X5_isComplete
theorem dX5_firstError_0 : decode cX5_firstError 0 = .ok (.aload_n 0, 1) := by decide +kernel
theorem dX5_firstError_1 : decode cX5_firstError 1 = .ok (.iconst 0, 1) := by decide +kernel
theorem dX5_firstError_2 : decode cX5_firstError 2 = .ok (.putfield 38, 3) := by decide +kernel
theorem dX5_firstError_5 : decode cX5_firstError 5 = .ok (.aload_n 0, 1) := by decide +kernel
theorem dX5_firstError_6 : decode cX5_firstError 6 = .ok (.invokevirtual 175, 3) := by decide +kernel
theorem dX5_firstError_9 : decode cX5_firstError 9 = .ok (.ifCond .eq 10, 3) := by decide +kernel
theorem dX5_firstError_12 : decode cX5_firstError 12 = .ok (.aload_n 0, 1) := by decide +kernel
theorem dX5_firstError_13 : decode cX5_firstError 13 = .ok (.getfield 147, 3) := by decide +kernel
theorem dX5_firstError_16 : decode cX5_firstError 16 = .ok (.goto 7, 3) := by decide +kernel
theorem dX5_firstError_19 : decode cX5_firstError 19 = .ok (.aload_n 0, 1) := by decide +kernel
theorem dX5_firstError_20 : decode cX5_firstError 20 = .ok (.getfield 150, 3) := by decide +kernel
theorem dX5_firstError_23 : decode cX5_firstError 23 = .ok (.ireturn, 1) := by decide +kernel
set_option maxRecDepth 20000 in
theorem ggX5_isDone_X5_addBlock : GoodIn wsX5_isDone wsX5_addBlock := goodIn_r _ [9, 3, 10, 11, 12, 8, 13, 79, 80, 81, 82, 83, 84, 85, 86, 87, 88, 89, 90, 91, 92, 93, 94, 95, 96] (by decide +kernel) (by decide +kernel)
set_option maxRecDepth 20000 in
theorem gX5_isDone_X5_addBlock : GoodIn wsX5_isDone (wsV RX5 113 RX5 yX5_addBlock wsX5_addBlock) := goodIn_app (goodIn_of _ (by decide +kernel)) ggX5_isDone_X5_addBlock
set_option maxRecDepth 20000 in
theorem ggX5_isDone_X5_isBlock : GoodIn wsX5_isDone wsX5_isBlock := goodIn_r _ [17, 3, 18, 19, 8, 20, 79, 80, 81, 82, 83, 84, 85, 86, 87, 88, 89, 90, 91, 92, 93, 94, 95, 96] (by decide +kernel) (by decide +kernel)
set_option maxRecDepth 20000 in
theorem gX5_isDone_X5_isBlock : GoodIn wsX5_isDone (wsV RX5 116 RX5 yX5_isBlock wsX5_isBlock) := goodIn_app (goodIn_of _ (by decide +kernel)) ggX5_isDone_X5_isBlock
set_option maxRecDepth 20000 in
theorem ggX5_isDone_X5_wringNow : GoodIn wsX5_isDone wsX5_wringNow := goodIn_r _ [24, 3, 25, 26, 27, 8, 28, 29, 30, 31, 32, 33, 34, 35, 36, 37, 38, 39, 40, 41, 42, 43, 44, 45, 46, 47, 48, 49, 50, 51, 10, 11, 12, 13, 52, 53, 54, 55, 56, 57, 58, 59, 60, 61, 62, 63, 79, 80, 81, 82, 83, 84, 85, 86, 87, 88, 89, 90, 91, 92, 93, 94, 95, 96] (by decide +kernel) (by decide +kernel)
set_option maxRecDepth 20000 in
theorem gX5_isDone_X5_wringNow : GoodIn wsX5_isDone (wsV RX5 132 RX5 yX5_wringNow wsX5_wringNow) := goodIn_app (goodIn_of _ (by decide +kernel)) ggX5_isDone_X5_wringNow
set_option maxRecDepth 20000 in
theorem ggX5_isDone_X5_height : GoodIn wsX5_isDone wsX5_height := goodIn_r _ [40, 3, 33, 34, 35, 8, 36, 79, 80, 81, 82, 83, 84, 85, 86, 87, 88, 89, 90, 91, 92, 93, 94, 95, 96] (by decide +kernel) (by decide +kernel)
set_option maxRecDepth 20000 in
theorem gX5_isDone_X5_height : GoodIn wsX5_isDone (wsV RX5 82 RX5 yX5_height wsX5_height) := goodIn_app (goodIn_of _ (by decide +kernel)) ggX5_isDone_X5_height
set_option maxRecDepth 20000 in
theorem ggX5_isDone_X5_takeNow : GoodIn wsX5_isDone wsX5_takeNow := goodIn_r _ [67, 3, 37, 38, 39, 8, 40, 33, 34, 35, 36, 60, 61, 62, 63, 52, 53, 54, 55, 56, 57, 58, 59, 10, 11, 12, 13, 79, 80, 81, 82, 83, 84, 85, 86, 87, 88, 89, 90, 91, 92, 93, 94, 95, 96] (by decide +kernel) (by decide +kernel)
set_option maxRecDepth 20000 in
theorem gX5_isDone_X5_takeNow : GoodIn wsX5_isDone (wsV RX5 135 RX5 yX5_takeNow wsX5_takeNow) := goodIn_app (goodIn_of _ (by decide +kernel)) ggX5_isDone_X5_takeNow
set_option maxRecDepth 20000 in
theorem ggX5_isDone_X5_holdNow : GoodIn wsX5_isDone wsX5_holdNow := goodIn_r _ [71, 56, 57, 58, 8, 59, 33, 34, 35, 36, 3, 10, 11, 12, 13, 79, 80, 81, 82, 83, 84, 85, 86, 87, 88, 89, 90, 91, 92, 93, 94, 95, 96] (by decide +kernel) (by decide +kernel)
set_option maxRecDepth 20000 in
theorem gX5_isDone_X5_holdNow : GoodIn wsX5_isDone (wsV RX5 119 RX5 yX5_holdNow wsX5_holdNow) := goodIn_app (goodIn_of _ (by decide +kernel)) ggX5_isDone_X5_holdNow
set_option maxRecDepth 20000 in
theorem ggX5_isDone_X5_restNow : GoodIn wsX5_isDone wsX5_restNow := goodIn_r _ [75, 3, 33, 34, 35, 8, 36, 76, 77, 78, 10, 11, 12, 13, 79, 80, 81, 82, 83, 84, 85, 86, 87, 88, 89, 90, 91, 92, 93, 94, 95, 96] (by decide +kernel) (by decide +kernel)
set_option maxRecDepth 20000 in
theorem gX5_isDone_X5_restNow : GoodIn wsX5_isDone (wsV RX5 122 RX5 yX5_restNow wsX5_restNow) := goodIn_app (goodIn_of _ (by decide +kernel)) ggX5_isDone_X5_restNow
theorem dX5_isDone_0 : decode cX5_isDone 0 = .ok (.aload_n 0, 1) := by decide +kernel
theorem dX5_isDone_1 : decode cX5_isDone 1 = .ok (.getfield 35, 3) := by decide +kernel
theorem dX5_isDone_4 : decode cX5_isDone 4 = .ok (.iload_n 1, 1) := by decide +kernel
theorem dX5_isDone_5 : decode cX5_isDone 5 = .ok (.iaload, 1) := by decide +kernel
theorem dX5_isDone_6 : decode cX5_isDone 6 = .ok (.istore_n 2, 1) := by decide +kernel
theorem dX5_isDone_7 : decode cX5_isDone 7 = .ok (.aload_n 0, 1) := by decide +kernel
theorem dX5_isDone_8 : decode cX5_isDone 8 = .ok (.getfield 29, 3) := by decide +kernel
theorem dX5_isDone_11 : decode cX5_isDone 11 = .ok (.iload_n 1, 1) := by decide +kernel
theorem dX5_isDone_12 : decode cX5_isDone 12 = .ok (.iaload, 1) := by decide +kernel
theorem dX5_isDone_13 : decode cX5_isDone 13 = .ok (.lookupswitch 153 #[(98, 43), (104, 120), (117, 98), (119, 70)], 43) := by decide +kernel
theorem dX5_isDone_56 : decode cX5_isDone 56 = .ok (.aload_n 0, 1) := by decide +kernel
theorem dX5_isDone_57 : decode cX5_isDone 57 = .ok (.getfield 7, 3) := by decide +kernel
theorem dX5_isDone_60 : decode cX5_isDone 60 = .ok (.bipush 8, 2) := by decide +kernel
theorem dX5_isDone_62 : decode cX5_isDone 62 = .ok (.iaload, 1) := by decide +kernel
theorem dX5_isDone_63 : decode cX5_isDone 63 = .ok (.bipush 20, 2) := by decide +kernel
theorem dX5_isDone_65 : decode cX5_isDone 65 = .ok (.if_icmp .ge 16, 3) := by decide +kernel
theorem dX5_isDone_68 : decode cX5_isDone 68 = .ok (.aload_n 0, 1) := by decide +kernel
theorem dX5_isDone_69 : decode cX5_isDone 69 = .ok (.iload_n 2, 1) := by decide +kernel
theorem dX5_isDone_70 : decode cX5_isDone 70 = .ok (.iconst 0, 1) := by decide +kernel
theorem dX5_isDone_71 : decode cX5_isDone 71 = .ok (.invokevirtual 113, 3) := by decide +kernel
theorem dX5_isDone_74 : decode cX5_isDone 74 = .ok (.ifCond .lt 7, 3) := by decide +kernel
theorem dX5_isDone_77 : decode cX5_isDone 77 = .ok (.iconst 1, 1) := by decide +kernel
theorem dX5_isDone_78 : decode cX5_isDone 78 = .ok (.goto 4, 3) := by decide +kernel
theorem dX5_isDone_81 : decode cX5_isDone 81 = .ok (.iconst 0, 1) := by decide +kernel
theorem dX5_isDone_82 : decode cX5_isDone 82 = .ok (.ireturn, 1) := by decide +kernel
theorem dX5_isDone_83 : decode cX5_isDone 83 = .ok (.aload_n 0, 1) := by decide +kernel
theorem dX5_isDone_84 : decode cX5_isDone 84 = .ok (.iload_n 2, 1) := by decide +kernel
theorem dX5_isDone_85 : decode cX5_isDone 85 = .ok (.invokevirtual 116, 3) := by decide +kernel
theorem dX5_isDone_88 : decode cX5_isDone 88 = .ok (.ifCond .eq 21, 3) := by decide +kernel
theorem dX5_isDone_91 : decode cX5_isDone 91 = .ok (.aload_n 0, 1) := by decide +kernel
theorem dX5_isDone_92 : decode cX5_isDone 92 = .ok (.aload_n 0, 1) := by decide +kernel
theorem dX5_isDone_93 : decode cX5_isDone 93 = .ok (.getfield 32, 3) := by decide +kernel
theorem dX5_isDone_96 : decode cX5_isDone 96 = .ok (.iload_n 1, 1) := by decide +kernel
theorem dX5_isDone_97 : decode cX5_isDone 97 = .ok (.iaload, 1) := by decide +kernel
theorem dX5_isDone_98 : decode cX5_isDone 98 = .ok (.iload_n 2, 1) := by decide +kernel
theorem dX5_isDone_99 : decode cX5_isDone 99 = .ok (.invokevirtual 132, 3) := by decide +kernel
theorem dX5_isDone_102 : decode cX5_isDone 102 = .ok (.ifCond .ne 7, 3) := by decide +kernel
theorem dX5_isDone_105 : decode cX5_isDone 105 = .ok (.iconst 1, 1) := by decide +kernel
theorem dX5_isDone_106 : decode cX5_isDone 106 = .ok (.goto 4, 3) := by decide +kernel
theorem dX5_isDone_109 : decode cX5_isDone 109 = .ok (.iconst 0, 1) := by decide +kernel
theorem dX5_isDone_110 : decode cX5_isDone 110 = .ok (.ireturn, 1) := by decide +kernel
theorem dX5_isDone_111 : decode cX5_isDone 111 = .ok (.aload_n 0, 1) := by decide +kernel
theorem dX5_isDone_112 : decode cX5_isDone 112 = .ok (.iload_n 2, 1) := by decide +kernel
theorem dX5_isDone_113 : decode cX5_isDone 113 = .ok (.invokevirtual 82, 3) := by decide +kernel
theorem dX5_isDone_116 : decode cX5_isDone 116 = .ok (.ifCond .le 15, 3) := by decide +kernel
theorem dX5_isDone_119 : decode cX5_isDone 119 = .ok (.aload_n 0, 1) := by decide +kernel
theorem dX5_isDone_120 : decode cX5_isDone 120 = .ok (.iload_n 2, 1) := by decide +kernel
theorem dX5_isDone_121 : decode cX5_isDone 121 = .ok (.invokevirtual 135, 3) := by decide +kernel
theorem dX5_isDone_124 : decode cX5_isDone 124 = .ok (.ifCond .lt 7, 3) := by decide +kernel
theorem dX5_isDone_127 : decode cX5_isDone 127 = .ok (.iconst 1, 1) := by decide +kernel
theorem dX5_isDone_128 : decode cX5_isDone 128 = .ok (.goto 4, 3) := by decide +kernel
theorem dX5_isDone_131 : decode cX5_isDone 131 = .ok (.iconst 0, 1) := by decide +kernel
theorem dX5_isDone_132 : decode cX5_isDone 132 = .ok (.ireturn, 1) := by decide +kernel
theorem dX5_isDone_133 : decode cX5_isDone 133 = .ok (.aload_n 0, 1) := by decide +kernel
theorem dX5_isDone_134 : decode cX5_isDone 134 = .ok (.aload_n 0, 1) := by decide +kernel
theorem dX5_isDone_135 : decode cX5_isDone 135 = .ok (.getfield 32, 3) := by decide +kernel
theorem dX5_isDone_138 : decode cX5_isDone 138 = .ok (.iload_n 1, 1) := by decide +kernel
theorem dX5_isDone_139 : decode cX5_isDone 139 = .ok (.iaload, 1) := by decide +kernel
theorem dX5_isDone_140 : decode cX5_isDone 140 = .ok (.invokevirtual 116, 3) := by decide +kernel
theorem dX5_isDone_143 : decode cX5_isDone 143 = .ok (.ifCond .eq 21, 3) := by decide +kernel
theorem dX5_isDone_146 : decode cX5_isDone 146 = .ok (.aload_n 0, 1) := by decide +kernel
theorem dX5_isDone_147 : decode cX5_isDone 147 = .ok (.aload_n 0, 1) := by decide +kernel
theorem dX5_isDone_148 : decode cX5_isDone 148 = .ok (.getfield 32, 3) := by decide +kernel
theorem dX5_isDone_151 : decode cX5_isDone 151 = .ok (.iload_n 1, 1) := by decide +kernel
theorem dX5_isDone_152 : decode cX5_isDone 152 = .ok (.iaload, 1) := by decide +kernel
theorem dX5_isDone_153 : decode cX5_isDone 153 = .ok (.iload_n 2, 1) := by decide +kernel
theorem dX5_isDone_154 : decode cX5_isDone 154 = .ok (.invokevirtual 119, 3) := by decide +kernel
theorem dX5_isDone_157 : decode cX5_isDone 157 = .ok (.ifCond .lt 7, 3) := by decide +kernel
theorem dX5_isDone_160 : decode cX5_isDone 160 = .ok (.iconst 1, 1) := by decide +kernel
theorem dX5_isDone_161 : decode cX5_isDone 161 = .ok (.goto 4, 3) := by decide +kernel
theorem dX5_isDone_164 : decode cX5_isDone 164 = .ok (.iconst 0, 1) := by decide +kernel
theorem dX5_isDone_165 : decode cX5_isDone 165 = .ok (.ireturn, 1) := by decide +kernel
theorem dX5_isDone_166 : decode cX5_isDone 166 = .ok (.aload_n 0, 1) := by decide +kernel
theorem dX5_isDone_167 : decode cX5_isDone 167 = .ok (.iload_n 2, 1) := by decide +kernel
theorem dX5_isDone_168 : decode cX5_isDone 168 = .ok (.invokevirtual 122, 3) := by decide +kernel
theorem dX5_isDone_171 : decode cX5_isDone 171 = .ok (.ifCond .lt 7, 3) := by decide +kernel
theorem dX5_isDone_174 : decode cX5_isDone 174 = .ok (.iconst 1, 1) := by decide +kernel
theorem dX5_isDone_175 : decode cX5_isDone 175 = .ok (.goto 4, 3) := by decide +kernel
theorem dX5_isDone_178 : decode cX5_isDone 178 = .ok (.iconst 0, 1) := by decide +kernel
theorem dX5_isDone_179 : decode cX5_isDone 179 = .ok (.ireturn, 1) := by decide +kernel
set_option maxRecDepth 20000 in
theorem ggX5_execute_X5_isComplete : GoodIn wsX5_execute wsX5_isComplete := goodIn_r _ [8, 9, 2, 3, 10, 11, 12, 7, 13, 14, 15, 16, 17, 18, 19, 20, 21, 22, 23, 24, 25, 26, 27, 28, 29, 30, 31, 32, 33, 34, 35, 36, 37, 38, 124, 125, 126, 127, 128, 129, 130, 131, 132, 133, 134, 135, 136, 137, 138, 139, 140, 141] (by decide +kernel) (by decide +kernel)
set_option maxRecDepth 20000 in
theorem gX5_execute_X5_isComplete : GoodIn wsX5_execute (wsV RX5 175 RX5 yX5_isComplete wsX5_isComplete) := goodIn_app (goodIn_of _ (by decide +kernel)) ggX5_execute_X5_isComplete
set_option maxRecDepth 20000 in
theorem ggX5_execute_X5_fails : GoodIn wsX5_execute wsX5_fails := goodIn_r _ [42, 1, 124, 125, 126, 127, 128, 129, 130, 131, 132, 133, 134, 135, 136, 137, 138, 139, 140, 141] (by decide +kernel) (by decide +kernel)
set_option maxRecDepth 20000 in
theorem gX5_execute_X5_fails : GoodIn wsX5_execute (wsV RX5 50 RX5 yX5_fails wsX5_fails) := goodIn_app (goodIn_of _ (by decide +kernel)) ggX5_execute_X5_fails
set_option maxRecDepth 20000 in
theorem ggX5_execute_X5_save : GoodIn wsX5_execute wsX5_save := goodIn_r _ [46, 47, 48, 49, 124, 125, 126, 127, 128, 129, 130, 131, 132, 133, 134, 135, 136, 137, 138, 139, 140, 141] (by decide +kernel) (by decide +kernel)
set_option maxRecDepth 20000 in
theorem gX5_execute_X5_save : GoodIn wsX5_execute (wsV RX5 54 RX5 yX5_save wsX5_save) := goodIn_app (goodIn_of _ (by decide +kernel)) ggX5_execute_X5_save
set_option maxRecDepth 20000 in
theorem ggX5_execute_X5_isDone : GoodIn wsX5_execute wsX5_isDone := goodIn_r _ [53, 16, 15, 49, 23, 54, 55, 56, 7, 57, 58, 59, 60, 61, 62, 63, 64, 65, 32, 33, 34, 66, 67, 68, 69, 70, 71, 72, 73, 74, 75, 76, 77, 78, 79, 80, 81, 82, 83, 84, 85, 86, 87, 88, 89, 90, 91, 92, 93, 94, 95, 96, 97, 98, 99, 100, 101, 102, 103, 104, 105, 106, 107, 108, 109, 110, 111, 112, 113, 114, 115, 116, 117, 118, 119, 120, 121, 122, 123, 124, 125, 126, 127, 128, 129, 130, 131, 132, 133, 134, 135, 136, 137, 138, 139, 140, 141] (by decide +kernel) (by decide +kernel)
set_option maxRecDepth 20000 in
theorem gX5_execute_X5_isDone : GoodIn wsX5_execute (wsV RX5 178 RX5 yX5_isDone wsX5_isDone) := goodIn_app (goodIn_of _ (by decide +kernel)) ggX5_execute_X5_isDone
theorem dX5_execute_0 : decode cX5_execute 0 = .ok (.aload_n 0, 1) := by decide +kernel
theorem dX5_execute_1 : decode cX5_execute 1 = .ok (.iconst 0, 1) := by decide +kernel
theorem dX5_execute_2 : decode cX5_execute 2 = .ok (.putfield 38, 3) := by decide +kernel
theorem dX5_execute_5 : decode cX5_execute 5 = .ok (.aload_n 0, 1) := by decide +kernel
theorem dX5_execute_6 : decode cX5_execute 6 = .ok (.invokevirtual 175, 3) := by decide +kernel
theorem dX5_execute_9 : decode cX5_execute 9 = .ok (.ifCond .ne 9, 3) := by decide +kernel
theorem dX5_execute_12 : decode cX5_execute 12 = .ok (.aload_n 0, 1) := by decide +kernel
theorem dX5_execute_13 : decode cX5_execute 13 = .ok (.iconst 1, 1) := by decide +kernel
theorem dX5_execute_14 : decode cX5_execute 14 = .ok (.invokevirtual 50, 3) := by decide +kernel
theorem dX5_execute_17 : decode cX5_execute 17 = .ok (.ireturn, 1) := by decide +kernel
theorem dX5_execute_18 : decode cX5_execute 18 = .ok (.aload_n 0, 1) := by decide +kernel
theorem dX5_execute_19 : decode cX5_execute 19 = .ok (.invokevirtual 54, 3) := by decide +kernel
theorem dX5_execute_22 : decode cX5_execute 22 = .ok (.iconst 0, 1) := by decide +kernel
theorem dX5_execute_23 : decode cX5_execute 23 = .ok (.istore_n 1, 1) := by decide +kernel
theorem dX5_execute_24 : decode cX5_execute 24 = .ok (.iload_n 1, 1) := by decide +kernel
theorem dX5_execute_25 : decode cX5_execute 25 = .ok (.aload_n 0, 1) := by decide +kernel
theorem dX5_execute_26 : decode cX5_execute 26 = .ok (.getfield 162, 3) := by decide +kernel
theorem dX5_execute_29 : decode cX5_execute 29 = .ok (.if_icmp .ge 17, 3) := by decide +kernel
theorem dX5_execute_32 : decode cX5_execute 32 = .ok (.aload_n 0, 1) := by decide +kernel
theorem dX5_execute_33 : decode cX5_execute 33 = .ok (.iload_n 1, 1) := by decide +kernel
theorem dX5_execute_34 : decode cX5_execute 34 = .ok (.invokevirtual 178, 3) := by decide +kernel
theorem dX5_execute_37 : decode cX5_execute 37 = .ok (.ifCond .eq 9, 3) := by decide +kernel
theorem dX5_execute_40 : decode cX5_execute 40 = .ok (.iinc 1 1, 3) := by decide +kernel
theorem dX5_execute_43 : decode cX5_execute 43 = .ok (.goto (-19), 3) := by decide +kernel
theorem dX5_execute_46 : decode cX5_execute 46 = .ok (.aload_n 0, 1) := by decide +kernel
theorem dX5_execute_47 : decode cX5_execute 47 = .ok (.iconst 0, 1) := by decide +kernel
theorem dX5_execute_48 : decode cX5_execute 48 = .ok (.putfield 147, 3) := by decide +kernel
theorem dX5_execute_51 : decode cX5_execute 51 = .ok (.iload_n 1, 1) := by decide +kernel
theorem dX5_execute_52 : decode cX5_execute 52 = .ok (.ireturn, 1) := by decide +kernel
set_option maxRecDepth 20000 in
theorem ggX5_ofBlock_X5_of : GoodIn wsX5_ofBlock wsX5_of := goodIn_r _ [5, 6, 22, 23, 24, 25, 26, 27, 28, 29, 30, 31, 32, 33, 34, 35, 36, 37, 38, 39] (by decide +kernel) (by decide +kernel)
set_option maxRecDepth 20000 in
theorem gX5_ofBlock_X5_of : GoodIn wsX5_ofBlock (wsV RX5 57 RX5 yX5_of wsX5_of) := goodIn_app (goodIn_of _ (by decide +kernel)) ggX5_ofBlock_X5_of
set_option maxRecDepth 20000 in
theorem ggX5_ofBlock_X5_error : GoodIn wsX5_ofBlock wsX5_error := goodIn_r _ [10, 1, 2, 3, 4, 5, 6, 22, 23, 24, 25, 26, 27, 28, 29, 30, 31, 32, 33, 34, 35, 36, 37, 38, 39] (by decide +kernel) (by decide +kernel)
set_option maxRecDepth 20000 in
theorem gX5_ofBlock_X5_error : GoodIn wsX5_ofBlock (wsV RX5 61 RX5 yX5_error wsX5_error) := goodIn_app (goodIn_of _ (by decide +kernel)) ggX5_ofBlock_X5_error
set_option maxRecDepth 20000 in
theorem ggX5_ofBlock_X5_grade : GoodIn wsX5_ofBlock wsX5_grade := goodIn_r _ [14, 7, 8, 9, 4, 10, 1, 2, 3, 5, 6, 15, 16, 17, 22, 23, 24, 25, 26, 27, 28, 29, 30, 31, 32, 33, 34, 35, 36, 37, 38, 39] (by decide +kernel) (by decide +kernel)
set_option maxRecDepth 20000 in
theorem gX5_ofBlock_X5_grade : GoodIn wsX5_ofBlock (wsV RX5 85 RX5 yX5_grade wsX5_grade) := goodIn_app (goodIn_of _ (by decide +kernel)) ggX5_ofBlock_X5_grade
set_option maxRecDepth 20000 in
theorem ggX5_ofBlock_X5_trueLength : GoodIn wsX5_ofBlock wsX5_trueLength := goodIn_r _ [21, 1, 2, 3, 4, 5, 6, 7, 8, 9, 10, 22, 23, 24, 25, 26, 27, 28, 29, 30, 31, 32, 33, 34, 35, 36, 37, 38, 39] (by decide +kernel) (by decide +kernel)
set_option maxRecDepth 20000 in
theorem gX5_ofBlock_X5_trueLength : GoodIn wsX5_ofBlock (wsV RX5 181 RX5 yX5_trueLength wsX5_trueLength) := goodIn_app (goodIn_of _ (by decide +kernel)) ggX5_ofBlock_X5_trueLength
theorem dX5_ofBlock_0 : decode cX5_ofBlock 0 = .ok (.iload_n 2, 1) := by decide +kernel
theorem dX5_ofBlock_1 : decode cX5_ofBlock 1 = .ok (.tableswitch 110 0 7 #[47, 54, 64, 71, 78, 84, 96, 103], 47) := by decide +kernel
theorem dX5_ofBlock_48 : decode cX5_ofBlock 48 = .ok (.aload_n 0, 1) := by decide +kernel
theorem dX5_ofBlock_49 : decode cX5_ofBlock 49 = .ok (.iload_n 1, 1) := by decide +kernel
theorem dX5_ofBlock_50 : decode cX5_ofBlock 50 = .ok (.iconst 0, 1) := by decide +kernel
theorem dX5_ofBlock_51 : decode cX5_ofBlock 51 = .ok (.invokevirtual 57, 3) := by decide +kernel
theorem dX5_ofBlock_54 : decode cX5_ofBlock 54 = .ok (.ireturn, 1) := by decide +kernel
theorem dX5_ofBlock_55 : decode cX5_ofBlock 55 = .ok (.aload_n 0, 1) := by decide +kernel
theorem dX5_ofBlock_56 : decode cX5_ofBlock 56 = .ok (.iload_n 1, 1) := by decide +kernel
theorem dX5_ofBlock_57 : decode cX5_ofBlock 57 = .ok (.invokevirtual 61, 3) := by decide +kernel
theorem dX5_ofBlock_60 : decode cX5_ofBlock 60 = .ok (.sipush 10000, 3) := by decide +kernel
theorem dX5_ofBlock_63 : decode cX5_ofBlock 63 = .ok (.iadd, 1) := by decide +kernel
theorem dX5_ofBlock_64 : decode cX5_ofBlock 64 = .ok (.ireturn, 1) := by decide +kernel
theorem dX5_ofBlock_65 : decode cX5_ofBlock 65 = .ok (.aload_n 0, 1) := by decide +kernel
theorem dX5_ofBlock_66 : decode cX5_ofBlock 66 = .ok (.iload_n 1, 1) := by decide +kernel
theorem dX5_ofBlock_67 : decode cX5_ofBlock 67 = .ok (.iconst 2, 1) := by decide +kernel
theorem dX5_ofBlock_68 : decode cX5_ofBlock 68 = .ok (.invokevirtual 57, 3) := by decide +kernel
theorem dX5_ofBlock_71 : decode cX5_ofBlock 71 = .ok (.ireturn, 1) := by decide +kernel
theorem dX5_ofBlock_72 : decode cX5_ofBlock 72 = .ok (.aload_n 0, 1) := by decide +kernel
theorem dX5_ofBlock_73 : decode cX5_ofBlock 73 = .ok (.iload_n 1, 1) := by decide +kernel
theorem dX5_ofBlock_74 : decode cX5_ofBlock 74 = .ok (.iconst 3, 1) := by decide +kernel
theorem dX5_ofBlock_75 : decode cX5_ofBlock 75 = .ok (.invokevirtual 57, 3) := by decide +kernel
theorem dX5_ofBlock_78 : decode cX5_ofBlock 78 = .ok (.ireturn, 1) := by decide +kernel
theorem dX5_ofBlock_79 : decode cX5_ofBlock 79 = .ok (.aload_n 0, 1) := by decide +kernel
theorem dX5_ofBlock_80 : decode cX5_ofBlock 80 = .ok (.iload_n 1, 1) := by decide +kernel
theorem dX5_ofBlock_81 : decode cX5_ofBlock 81 = .ok (.invokevirtual 85, 3) := by decide +kernel
theorem dX5_ofBlock_84 : decode cX5_ofBlock 84 = .ok (.ireturn, 1) := by decide +kernel
theorem dX5_ofBlock_85 : decode cX5_ofBlock 85 = .ok (.aload_n 0, 1) := by decide +kernel
theorem dX5_ofBlock_86 : decode cX5_ofBlock 86 = .ok (.iload_n 1, 1) := by decide +kernel
theorem dX5_ofBlock_87 : decode cX5_ofBlock 87 = .ok (.aload_n 0, 1) := by decide +kernel
theorem dX5_ofBlock_88 : decode cX5_ofBlock 88 = .ok (.iload_n 1, 1) := by decide +kernel
theorem dX5_ofBlock_89 : decode cX5_ofBlock 89 = .ok (.iconst 3, 1) := by decide +kernel
theorem dX5_ofBlock_90 : decode cX5_ofBlock 90 = .ok (.invokevirtual 57, 3) := by decide +kernel
theorem dX5_ofBlock_93 : decode cX5_ofBlock 93 = .ok (.invokevirtual 181, 3) := by decide +kernel
theorem dX5_ofBlock_96 : decode cX5_ofBlock 96 = .ok (.ireturn, 1) := by decide +kernel
theorem dX5_ofBlock_97 : decode cX5_ofBlock 97 = .ok (.aload_n 0, 1) := by decide +kernel
theorem dX5_ofBlock_98 : decode cX5_ofBlock 98 = .ok (.iload_n 1, 1) := by decide +kernel
theorem dX5_ofBlock_99 : decode cX5_ofBlock 99 = .ok (.iconst 4, 1) := by decide +kernel
theorem dX5_ofBlock_100 : decode cX5_ofBlock 100 = .ok (.invokevirtual 57, 3) := by decide +kernel
theorem dX5_ofBlock_103 : decode cX5_ofBlock 103 = .ok (.ireturn, 1) := by decide +kernel
theorem dX5_ofBlock_104 : decode cX5_ofBlock 104 = .ok (.aload_n 0, 1) := by decide +kernel
theorem dX5_ofBlock_105 : decode cX5_ofBlock 105 = .ok (.iload_n 1, 1) := by decide +kernel
theorem dX5_ofBlock_106 : decode cX5_ofBlock 106 = .ok (.iconst 5, 1) := by decide +kernel
theorem dX5_ofBlock_107 : decode cX5_ofBlock 107 = .ok (.invokevirtual 57, 3) := by decide +kernel
theorem dX5_ofBlock_110 : decode cX5_ofBlock 110 = .ok (.ireturn, 1) := by decide +kernel
theorem dX5_ofBlock_111 : decode cX5_ofBlock 111 = .ok (.aload_n 0, 1) := by decide +kernel
theorem dX5_ofBlock_112 : decode cX5_ofBlock 112 = .ok (.iload_n 1, 1) := by decide +kernel
theorem dX5_ofBlock_113 : decode cX5_ofBlock 113 = .ok (.bipush 6, 2) := by decide +kernel
theorem dX5_ofBlock_115 : decode cX5_ofBlock 115 = .ok (.invokevirtual 57, 3) := by decide +kernel
theorem dX5_ofBlock_118 : decode cX5_ofBlock 118 = .ok (.ireturn, 1) := by decide +kernel
set_option maxRecDepth 20000 in
theorem ggX5_blockOf_X5_isBlock : GoodIn wsX5_blockOf wsX5_isBlock := goodIn_r _ [6, 7, 8, 9, 5, 10, 38, 39, 40, 41, 42, 43, 44, 45, 46, 47, 48, 49, 50, 51, 52, 53, 54, 55] (by decide +kernel) (by decide +kernel)
set_option maxRecDepth 20000 in
theorem gX5_blockOf_X5_isBlock : GoodIn wsX5_blockOf (wsV RX5 116 RX5 yX5_isBlock wsX5_isBlock) := goodIn_app (goodIn_of _ (by decide +kernel)) ggX5_blockOf_X5_isBlock
set_option maxRecDepth 20000 in
theorem ggX5_blockOf_X5_fails : GoodIn wsX5_blockOf wsX5_fails := goodIn_r _ [14, 1, 38, 39, 40, 41, 42, 43, 44, 45, 46, 47, 48, 49, 50, 51, 52, 53, 54, 55] (by decide +kernel) (by decide +kernel)
set_option maxRecDepth 20000 in
theorem gX5_blockOf_X5_fails : GoodIn wsX5_blockOf (wsV RX5 50 RX5 yX5_fails wsX5_fails) := goodIn_app (goodIn_of _ (by decide +kernel)) ggX5_blockOf_X5_fails
set_option maxRecDepth 20000 in
theorem ggX5_blockOf_X5_in : GoodIn wsX5_blockOf wsX5_in := goodIn_r _ [10] (by decide +kernel) (by decide +kernel)
set_option maxRecDepth 20000 in
theorem gX5_blockOf_X5_in : GoodIn wsX5_blockOf (va_wsS RX5 42 yX5_in wsX5_in) := goodIn_app (goodIn_of _ (by decide +kernel)) ggX5_blockOf_X5_in
set_option maxRecDepth 20000 in
theorem ggX5_blockOf_X5_ofBlock : GoodIn wsX5_blockOf wsX5_ofBlock := goodIn_r _ [18, 19, 20, 21, 5, 22, 7, 23, 24, 25, 26, 27, 28, 29, 30, 31, 32, 33, 34, 35, 36, 37, 38, 39, 40, 41, 42, 43, 44, 45, 46, 47, 48, 49, 50, 51, 52, 53, 54, 55] (by decide +kernel) (by decide +kernel)
set_option maxRecDepth 20000 in
theorem gX5_blockOf_X5_ofBlock : GoodIn wsX5_blockOf (wsV RX5 184 RX5 yX5_ofBlock wsX5_ofBlock) := goodIn_app (goodIn_of _ (by decide +kernel)) ggX5_blockOf_X5_ofBlock
theorem dX5_blockOf_0 : decode cX5_blockOf 0 = .ok (.aload_n 0, 1) := by decide +kernel
theorem dX5_blockOf_1 : decode cX5_blockOf 1 = .ok (.iconst 0, 1) := by decide +kernel
theorem dX5_blockOf_2 : decode cX5_blockOf 2 = .ok (.putfield 38, 3) := by decide +kernel
theorem dX5_blockOf_5 : decode cX5_blockOf 5 = .ok (.aload_n 0, 1) := by decide +kernel
theorem dX5_blockOf_6 : decode cX5_blockOf 6 = .ok (.iload_n 1, 1) := by decide +kernel
theorem dX5_blockOf_7 : decode cX5_blockOf 7 = .ok (.invokevirtual 116, 3) := by decide +kernel
theorem dX5_blockOf_10 : decode cX5_blockOf 10 = .ok (.ifCond .ne 9, 3) := by decide +kernel
theorem dX5_blockOf_13 : decode cX5_blockOf 13 = .ok (.aload_n 0, 1) := by decide +kernel
theorem dX5_blockOf_14 : decode cX5_blockOf 14 = .ok (.iconst 1, 1) := by decide +kernel
theorem dX5_blockOf_15 : decode cX5_blockOf 15 = .ok (.invokevirtual 50, 3) := by decide +kernel
theorem dX5_blockOf_18 : decode cX5_blockOf 18 = .ok (.ireturn, 1) := by decide +kernel
theorem dX5_blockOf_19 : decode cX5_blockOf 19 = .ok (.iload_n 2, 1) := by decide +kernel
theorem dX5_blockOf_20 : decode cX5_blockOf 20 = .ok (.iconst 0, 1) := by decide +kernel
theorem dX5_blockOf_21 : decode cX5_blockOf 21 = .ok (.bipush 8, 2) := by decide +kernel
theorem dX5_blockOf_23 : decode cX5_blockOf 23 = .ok (.invokestatic 42, 3) := by decide +kernel
theorem dX5_blockOf_26 : decode cX5_blockOf 26 = .ok (.ifCond .eq 12, 3) := by decide +kernel
theorem dX5_blockOf_29 : decode cX5_blockOf 29 = .ok (.aload_n 0, 1) := by decide +kernel
theorem dX5_blockOf_30 : decode cX5_blockOf 30 = .ok (.iload_n 1, 1) := by decide +kernel
theorem dX5_blockOf_31 : decode cX5_blockOf 31 = .ok (.iload_n 2, 1) := by decide +kernel
theorem dX5_blockOf_32 : decode cX5_blockOf 32 = .ok (.invokevirtual 184, 3) := by decide +kernel
theorem dX5_blockOf_35 : decode cX5_blockOf 35 = .ok (.goto 8, 3) := by decide +kernel
theorem dX5_blockOf_38 : decode cX5_blockOf 38 = .ok (.aload_n 0, 1) := by decide +kernel
theorem dX5_blockOf_39 : decode cX5_blockOf 39 = .ok (.iconst 2, 1) := by decide +kernel
theorem dX5_blockOf_40 : decode cX5_blockOf 40 = .ok (.invokevirtual 50, 3) := by decide +kernel
theorem dX5_blockOf_43 : decode cX5_blockOf 43 = .ok (.ireturn, 1) := by decide +kernel
set_option maxRecDepth 20000 in
theorem ggX5_lengthBehind_X5_of : GoodIn wsX5_lengthBehind wsX5_of := goodIn_r _ [6, 1, 18, 19, 20, 21, 22, 23, 24, 25, 26, 27, 28, 29, 30, 31, 32, 33, 34, 35] (by decide +kernel) (by decide +kernel)
set_option maxRecDepth 20000 in
theorem gX5_lengthBehind_X5_of : GoodIn wsX5_lengthBehind (wsV RX5 57 RX5 yX5_of wsX5_of) := goodIn_app (goodIn_of _ (by decide +kernel)) ggX5_lengthBehind_X5_of
set_option maxRecDepth 20000 in
theorem ggX5_lengthBehind_X5_cooled : GoodIn wsX5_lengthBehind wsX5_cooled := goodIn_r _ [9] (by decide +kernel) (by decide +kernel)
set_option maxRecDepth 20000 in
theorem gX5_lengthBehind_X5_cooled : GoodIn wsX5_lengthBehind (va_wsS RX5 75 yX5_cooled wsX5_cooled) := goodIn_app (goodIn_of _ (by decide +kernel)) ggX5_lengthBehind_X5_cooled
set_option maxRecDepth 20000 in
theorem ggX5_lengthBehind_X5_trueLength : GoodIn wsX5_lengthBehind wsX5_trueLength := goodIn_r _ [13, 2, 3, 4, 5, 6, 1, 14, 15, 16, 17, 18, 19, 20, 21, 22, 23, 24, 25, 26, 27, 28, 29, 30, 31, 32, 33, 34, 35] (by decide +kernel) (by decide +kernel)
set_option maxRecDepth 20000 in
theorem gX5_lengthBehind_X5_trueLength : GoodIn wsX5_lengthBehind (wsV RX5 181 RX5 yX5_trueLength wsX5_trueLength) := goodIn_app (goodIn_of _ (by decide +kernel)) ggX5_lengthBehind_X5_trueLength
theorem dX5_lengthBehind_0 : decode cX5_lengthBehind 0 = .ok (.iconst 0, 1) := by decide +kernel
theorem dX5_lengthBehind_1 : decode cX5_lengthBehind 1 = .ok (.istore_n 3, 1) := by decide +kernel
theorem dX5_lengthBehind_2 : decode cX5_lengthBehind 2 = .ok (.iconst 0, 1) := by decide +kernel
theorem dX5_lengthBehind_3 : decode cX5_lengthBehind 3 = .ok (.istore 4, 2) := by decide +kernel
theorem dX5_lengthBehind_5 : decode cX5_lengthBehind 5 = .ok (.iload 4, 2) := by decide +kernel
theorem dX5_lengthBehind_7 : decode cX5_lengthBehind 7 = .ok (.aload_n 0, 1) := by decide +kernel
theorem dX5_lengthBehind_8 : decode cX5_lengthBehind 8 = .ok (.getfield 7, 3) := by decide +kernel
theorem dX5_lengthBehind_11 : decode cX5_lengthBehind 11 = .ok (.bipush 8, 2) := by decide +kernel
theorem dX5_lengthBehind_13 : decode cX5_lengthBehind 13 = .ok (.iaload, 1) := by decide +kernel
theorem dX5_lengthBehind_14 : decode cX5_lengthBehind 14 = .ok (.if_icmp .ge 83, 3) := by decide +kernel
theorem dX5_lengthBehind_17 : decode cX5_lengthBehind 17 = .ok (.aload_n 0, 1) := by decide +kernel
theorem dX5_lengthBehind_18 : decode cX5_lengthBehind 18 = .ok (.iload 4, 2) := by decide +kernel
theorem dX5_lengthBehind_20 : decode cX5_lengthBehind 20 = .ok (.iconst 4, 1) := by decide +kernel
theorem dX5_lengthBehind_21 : decode cX5_lengthBehind 21 = .ok (.invokevirtual 57, 3) := by decide +kernel
theorem dX5_lengthBehind_24 : decode cX5_lengthBehind 24 = .ok (.iload_n 1, 1) := by decide +kernel
theorem dX5_lengthBehind_25 : decode cX5_lengthBehind 25 = .ok (.if_icmp .ne 66, 3) := by decide +kernel
theorem dX5_lengthBehind_28 : decode cX5_lengthBehind 28 = .ok (.aload_n 0, 1) := by decide +kernel
theorem dX5_lengthBehind_29 : decode cX5_lengthBehind 29 = .ok (.iload 4, 2) := by decide +kernel
theorem dX5_lengthBehind_31 : decode cX5_lengthBehind 31 = .ok (.iconst 3, 1) := by decide +kernel
theorem dX5_lengthBehind_32 : decode cX5_lengthBehind 32 = .ok (.invokevirtual 57, 3) := by decide +kernel
theorem dX5_lengthBehind_35 : decode cX5_lengthBehind 35 = .ok (.istore 5, 2) := by decide +kernel
theorem dX5_lengthBehind_37 : decode cX5_lengthBehind 37 = .ok (.iconst 0, 1) := by decide +kernel
theorem dX5_lengthBehind_38 : decode cX5_lengthBehind 38 = .ok (.istore 6, 2) := by decide +kernel
theorem dX5_lengthBehind_40 : decode cX5_lengthBehind 40 = .ok (.iload 6, 2) := by decide +kernel
theorem dX5_lengthBehind_42 : decode cX5_lengthBehind 42 = .ok (.iload_n 2, 1) := by decide +kernel
theorem dX5_lengthBehind_43 : decode cX5_lengthBehind 43 = .ok (.if_icmp .ge 16, 3) := by decide +kernel
theorem dX5_lengthBehind_46 : decode cX5_lengthBehind 46 = .ok (.iload 5, 2) := by decide +kernel
theorem dX5_lengthBehind_48 : decode cX5_lengthBehind 48 = .ok (.invokestatic 75, 3) := by decide +kernel
theorem dX5_lengthBehind_51 : decode cX5_lengthBehind 51 = .ok (.istore 5, 2) := by decide +kernel
theorem dX5_lengthBehind_53 : decode cX5_lengthBehind 53 = .ok (.iinc 6 1, 3) := by decide +kernel
theorem dX5_lengthBehind_56 : decode cX5_lengthBehind 56 = .ok (.goto (-16), 3) := by decide +kernel
theorem dX5_lengthBehind_59 : decode cX5_lengthBehind 59 = .ok (.iload_n 3, 1) := by decide +kernel
theorem dX5_lengthBehind_60 : decode cX5_lengthBehind 60 = .ok (.aload_n 0, 1) := by decide +kernel
theorem dX5_lengthBehind_61 : decode cX5_lengthBehind 61 = .ok (.iload 4, 2) := by decide +kernel
theorem dX5_lengthBehind_63 : decode cX5_lengthBehind 63 = .ok (.iload 5, 2) := by decide +kernel
theorem dX5_lengthBehind_65 : decode cX5_lengthBehind 65 = .ok (.invokevirtual 181, 3) := by decide +kernel
theorem dX5_lengthBehind_68 : decode cX5_lengthBehind 68 = .ok (.aload_n 0, 1) := by decide +kernel
theorem dX5_lengthBehind_69 : decode cX5_lengthBehind 69 = .ok (.iload 4, 2) := by decide +kernel
theorem dX5_lengthBehind_71 : decode cX5_lengthBehind 71 = .ok (.iconst 5, 1) := by decide +kernel
theorem dX5_lengthBehind_72 : decode cX5_lengthBehind 72 = .ok (.invokevirtual 57, 3) := by decide +kernel
theorem dX5_lengthBehind_75 : decode cX5_lengthBehind 75 = .ok (.ifCond .le 12, 3) := by decide +kernel
theorem dX5_lengthBehind_78 : decode cX5_lengthBehind 78 = .ok (.aload_n 0, 1) := by decide +kernel
theorem dX5_lengthBehind_79 : decode cX5_lengthBehind 79 = .ok (.getfield 7, 3) := by decide +kernel
theorem dX5_lengthBehind_82 : decode cX5_lengthBehind 82 = .ok (.iconst 0, 1) := by decide +kernel
theorem dX5_lengthBehind_83 : decode cX5_lengthBehind 83 = .ok (.iaload, 1) := by decide +kernel
theorem dX5_lengthBehind_84 : decode cX5_lengthBehind 84 = .ok (.goto 4, 3) := by decide +kernel
theorem dX5_lengthBehind_87 : decode cX5_lengthBehind 87 = .ok (.iconst 0, 1) := by decide +kernel
theorem dX5_lengthBehind_88 : decode cX5_lengthBehind 88 = .ok (.iadd, 1) := by decide +kernel
theorem dX5_lengthBehind_89 : decode cX5_lengthBehind 89 = .ok (.iadd, 1) := by decide +kernel
theorem dX5_lengthBehind_90 : decode cX5_lengthBehind 90 = .ok (.istore_n 3, 1) := by decide +kernel
theorem dX5_lengthBehind_91 : decode cX5_lengthBehind 91 = .ok (.iinc 4 1, 3) := by decide +kernel
theorem dX5_lengthBehind_94 : decode cX5_lengthBehind 94 = .ok (.goto (-89), 3) := by decide +kernel
theorem dX5_lengthBehind_97 : decode cX5_lengthBehind 97 = .ok (.iload_n 3, 1) := by decide +kernel
theorem dX5_lengthBehind_98 : decode cX5_lengthBehind 98 = .ok (.ireturn, 1) := by decide +kernel
set_option maxRecDepth 20000 in
theorem ggX5_together_X5_of : GoodIn wsX5_together wsX5_of := goodIn_r _ [6, 1, 18, 19, 20, 21, 22, 23, 24, 25, 26, 27, 28, 29, 30, 31, 32, 33, 34, 35] (by decide +kernel) (by decide +kernel)
set_option maxRecDepth 20000 in
theorem gX5_together_X5_of : GoodIn wsX5_together (wsV RX5 57 RX5 yX5_of wsX5_of) := goodIn_app (goodIn_of _ (by decide +kernel)) ggX5_together_X5_of
set_option maxRecDepth 20000 in
theorem ggX5_together_X5_grade : GoodIn wsX5_together wsX5_grade := goodIn_r _ [10, 11, 12, 13, 5, 14, 2, 3, 4, 6, 1, 15, 16, 17, 18, 19, 20, 21, 22, 23, 24, 25, 26, 27, 28, 29, 30, 31, 32, 33, 34, 35] (by decide +kernel) (by decide +kernel)
set_option maxRecDepth 20000 in
theorem gX5_together_X5_grade : GoodIn wsX5_together (wsV RX5 85 RX5 yX5_grade wsX5_grade) := goodIn_app (goodIn_of _ (by decide +kernel)) ggX5_together_X5_grade
theorem dX5_together_0 : decode cX5_together 0 = .ok (.iload_n 2, 1) := by decide +kernel
theorem dX5_together_1 : decode cX5_together 1 = .ok (.iconst 2, 1) := by decide +kernel
theorem dX5_together_2 : decode cX5_together 2 = .ok (.if_icmp .ne 7, 3) := by decide +kernel
theorem dX5_together_5 : decode cX5_together 5 = .ok (.iconst (-1), 1) := by decide +kernel
theorem dX5_together_6 : decode cX5_together 6 = .ok (.goto 4, 3) := by decide +kernel
theorem dX5_together_9 : decode cX5_together 9 = .ok (.iconst 0, 1) := by decide +kernel
theorem dX5_together_10 : decode cX5_together 10 = .ok (.istore_n 3, 1) := by decide +kernel
theorem dX5_together_11 : decode cX5_together 11 = .ok (.iconst 0, 1) := by decide +kernel
theorem dX5_together_12 : decode cX5_together 12 = .ok (.istore 4, 2) := by decide +kernel
theorem dX5_together_14 : decode cX5_together 14 = .ok (.iload 4, 2) := by decide +kernel
theorem dX5_together_16 : decode cX5_together 16 = .ok (.aload_n 0, 1) := by decide +kernel
theorem dX5_together_17 : decode cX5_together 17 = .ok (.getfield 7, 3) := by decide +kernel
theorem dX5_together_20 : decode cX5_together 20 = .ok (.bipush 8, 2) := by decide +kernel
theorem dX5_together_22 : decode cX5_together 22 = .ok (.iaload, 1) := by decide +kernel
theorem dX5_together_23 : decode cX5_together 23 = .ok (.if_icmp .ge 71, 3) := by decide +kernel
theorem dX5_together_26 : decode cX5_together 26 = .ok (.aload_n 0, 1) := by decide +kernel
theorem dX5_together_27 : decode cX5_together 27 = .ok (.iload 4, 2) := by decide +kernel
theorem dX5_together_29 : decode cX5_together 29 = .ok (.iconst 4, 1) := by decide +kernel
theorem dX5_together_30 : decode cX5_together 30 = .ok (.invokevirtual 57, 3) := by decide +kernel
theorem dX5_together_33 : decode cX5_together 33 = .ok (.iload_n 1, 1) := by decide +kernel
theorem dX5_together_34 : decode cX5_together 34 = .ok (.if_icmp .ne 54, 3) := by decide +kernel
theorem dX5_together_37 : decode cX5_together 37 = .ok (.aload_n 0, 1) := by decide +kernel
theorem dX5_together_38 : decode cX5_together 38 = .ok (.iload 4, 2) := by decide +kernel
theorem dX5_together_40 : decode cX5_together 40 = .ok (.invokevirtual 85, 3) := by decide +kernel
theorem dX5_together_43 : decode cX5_together 43 = .ok (.istore 5, 2) := by decide +kernel
theorem dX5_together_45 : decode cX5_together 45 = .ok (.iload_n 2, 1) := by decide +kernel
theorem dX5_together_46 : decode cX5_together 46 = .ok (.ifCond .ne 15, 3) := by decide +kernel
theorem dX5_together_49 : decode cX5_together 49 = .ok (.iload_n 3, 1) := by decide +kernel
theorem dX5_together_50 : decode cX5_together 50 = .ok (.aload_n 0, 1) := by decide +kernel
theorem dX5_together_51 : decode cX5_together 51 = .ok (.iload 4, 2) := by decide +kernel
theorem dX5_together_53 : decode cX5_together 53 = .ok (.iconst 0, 1) := by decide +kernel
theorem dX5_together_54 : decode cX5_together 54 = .ok (.invokevirtual 57, 3) := by decide +kernel
theorem dX5_together_57 : decode cX5_together 57 = .ok (.iadd, 1) := by decide +kernel
theorem dX5_together_58 : decode cX5_together 58 = .ok (.goto 29, 3) := by decide +kernel
theorem dX5_together_61 : decode cX5_together 61 = .ok (.iload_n 2, 1) := by decide +kernel
theorem dX5_together_62 : decode cX5_together 62 = .ok (.iconst 1, 1) := by decide +kernel
theorem dX5_together_63 : decode cX5_together 63 = .ok (.if_icmp .ne 12, 3) := by decide +kernel
theorem dX5_together_66 : decode cX5_together 66 = .ok (.iload_n 3, 1) := by decide +kernel
theorem dX5_together_67 : decode cX5_together 67 = .ok (.iconst 1, 1) := by decide +kernel
theorem dX5_together_68 : decode cX5_together 68 = .ok (.iload 4, 2) := by decide +kernel
theorem dX5_together_70 : decode cX5_together 70 = .ok (.ishl, 1) := by decide +kernel
theorem dX5_together_71 : decode cX5_together 71 = .ok (.ior, 1) := by decide +kernel
theorem dX5_together_72 : decode cX5_together 72 = .ok (.goto 15, 3) := by decide +kernel
theorem dX5_together_75 : decode cX5_together 75 = .ok (.iload 5, 2) := by decide +kernel
theorem dX5_together_77 : decode cX5_together 77 = .ok (.iload_n 3, 1) := by decide +kernel
theorem dX5_together_78 : decode cX5_together 78 = .ok (.if_icmp .le 8, 3) := by decide +kernel
theorem dX5_together_81 : decode cX5_together 81 = .ok (.iload 5, 2) := by decide +kernel
theorem dX5_together_83 : decode cX5_together 83 = .ok (.goto 4, 3) := by decide +kernel
theorem dX5_together_86 : decode cX5_together 86 = .ok (.iload_n 3, 1) := by decide +kernel
theorem dX5_together_87 : decode cX5_together 87 = .ok (.istore_n 3, 1) := by decide +kernel
theorem dX5_together_88 : decode cX5_together 88 = .ok (.iinc 4 1, 3) := by decide +kernel
theorem dX5_together_91 : decode cX5_together 91 = .ok (.goto (-77), 3) := by decide +kernel
theorem dX5_together_94 : decode cX5_together 94 = .ok (.iload_n 3, 1) := by decide +kernel
theorem dX5_together_95 : decode cX5_together 95 = .ok (.ireturn, 1) := by decide +kernel
set_option maxRecDepth 20000 in
theorem ggX5_ofStack_X5_height : GoodIn wsX5_ofStack wsX5_height := goodIn_r _ [5, 6, 7, 8, 9, 4, 10, 41, 42, 43, 44, 45, 46, 47, 48, 49, 50, 51, 52, 53, 54, 55, 56, 57, 58] (by decide +kernel) (by decide +kernel)
set_option maxRecDepth 20000 in
theorem gX5_ofStack_X5_height : GoodIn wsX5_ofStack (wsV RX5 82 RX5 yX5_height wsX5_height) := goodIn_app (goodIn_of _ (by decide +kernel)) ggX5_ofStack_X5_height
set_option maxRecDepth 20000 in
theorem ggX5_ofStack_X5_together : GoodIn wsX5_ofStack wsX5_together := goodIn_r _ [14, 6, 7, 8, 9, 4, 10, 15, 16, 17, 18, 19, 20, 21, 22, 23, 24, 25, 41, 42, 43, 44, 45, 46, 47, 48, 49, 50, 51, 52, 53, 54, 55, 56, 57, 58] (by decide +kernel) (by decide +kernel)
set_option maxRecDepth 20000 in
theorem gX5_ofStack_X5_together : GoodIn wsX5_ofStack (wsV RX5 187 RX5 yX5_together wsX5_together) := goodIn_app (goodIn_of _ (by decide +kernel)) ggX5_ofStack_X5_together
set_option maxRecDepth 20000 in
theorem ggX5_ofStack_X5_lengthBehind : GoodIn wsX5_ofStack wsX5_lengthBehind := goodIn_r _ [29, 6, 7, 8, 9, 4, 10, 30, 31, 32, 33, 34, 35, 36, 19, 20, 21, 22, 41, 42, 43, 44, 45, 46, 47, 48, 49, 50, 51, 52, 53, 54, 55, 56, 57, 58] (by decide +kernel) (by decide +kernel)
set_option maxRecDepth 20000 in
theorem gX5_ofStack_X5_lengthBehind : GoodIn wsX5_ofStack (wsV RX5 190 RX5 yX5_lengthBehind wsX5_lengthBehind) := goodIn_app (goodIn_of _ (by decide +kernel)) ggX5_ofStack_X5_lengthBehind
set_option maxRecDepth 20000 in
theorem ggX5_ofStack_X5_blockAt : GoodIn wsX5_ofStack wsX5_blockAt := goodIn_r _ [40, 6, 7, 8, 9, 4, 10, 41, 42, 43, 44, 45, 46, 47, 48, 49, 50, 51, 52, 53, 54, 55, 56, 57, 58] (by decide +kernel) (by decide +kernel)
set_option maxRecDepth 20000 in
theorem gX5_ofStack_X5_blockAt : GoodIn wsX5_ofStack (wsV RX5 88 RX5 yX5_blockAt wsX5_blockAt) := goodIn_app (goodIn_of _ (by decide +kernel)) ggX5_ofStack_X5_blockAt
set_option maxRecDepth 20000 in
theorem ggX5_ofStack_X5_size : GoodIn wsX5_ofStack wsX5_size := goodIn_r _ [25] (by decide +kernel) (by decide +kernel)
set_option maxRecDepth 20000 in
theorem gX5_ofStack_X5_size : GoodIn wsX5_ofStack (va_wsS RX5 64 yX5_size wsX5_size) := goodIn_app (goodIn_of _ (by decide +kernel)) ggX5_ofStack_X5_size
theorem dX5_ofStack_0 : decode cX5_ofStack 0 = .ok (.iload_n 2, 1) := by decide +kernel
theorem dX5_ofStack_1 : decode cX5_ofStack 1 = .ok (.tableswitch 86 0 5 #[39, 45, 52, 59, 66, 79], 39) := by decide +kernel
theorem dX5_ofStack_40 : decode cX5_ofStack 40 = .ok (.aload_n 0, 1) := by decide +kernel
theorem dX5_ofStack_41 : decode cX5_ofStack 41 = .ok (.iload_n 1, 1) := by decide +kernel
theorem dX5_ofStack_42 : decode cX5_ofStack 42 = .ok (.invokevirtual 82, 3) := by decide +kernel
theorem dX5_ofStack_45 : decode cX5_ofStack 45 = .ok (.ireturn, 1) := by decide +kernel
theorem dX5_ofStack_46 : decode cX5_ofStack 46 = .ok (.aload_n 0, 1) := by decide +kernel
theorem dX5_ofStack_47 : decode cX5_ofStack 47 = .ok (.iload_n 1, 1) := by decide +kernel
theorem dX5_ofStack_48 : decode cX5_ofStack 48 = .ok (.iconst 0, 1) := by decide +kernel
theorem dX5_ofStack_49 : decode cX5_ofStack 49 = .ok (.invokevirtual 187, 3) := by decide +kernel
theorem dX5_ofStack_52 : decode cX5_ofStack 52 = .ok (.ireturn, 1) := by decide +kernel
theorem dX5_ofStack_53 : decode cX5_ofStack 53 = .ok (.aload_n 0, 1) := by decide +kernel
theorem dX5_ofStack_54 : decode cX5_ofStack 54 = .ok (.iload_n 1, 1) := by decide +kernel
theorem dX5_ofStack_55 : decode cX5_ofStack 55 = .ok (.iconst 0, 1) := by decide +kernel
theorem dX5_ofStack_56 : decode cX5_ofStack 56 = .ok (.invokevirtual 190, 3) := by decide +kernel
theorem dX5_ofStack_59 : decode cX5_ofStack 59 = .ok (.ireturn, 1) := by decide +kernel
theorem dX5_ofStack_60 : decode cX5_ofStack 60 = .ok (.aload_n 0, 1) := by decide +kernel
theorem dX5_ofStack_61 : decode cX5_ofStack 61 = .ok (.iload_n 1, 1) := by decide +kernel
theorem dX5_ofStack_62 : decode cX5_ofStack 62 = .ok (.iconst 1, 1) := by decide +kernel
theorem dX5_ofStack_63 : decode cX5_ofStack 63 = .ok (.invokevirtual 187, 3) := by decide +kernel
theorem dX5_ofStack_66 : decode cX5_ofStack 66 = .ok (.ireturn, 1) := by decide +kernel
theorem dX5_ofStack_67 : decode cX5_ofStack 67 = .ok (.aload_n 0, 1) := by decide +kernel
theorem dX5_ofStack_68 : decode cX5_ofStack 68 = .ok (.iload_n 1, 1) := by decide +kernel
theorem dX5_ofStack_69 : decode cX5_ofStack 69 = .ok (.aload_n 0, 1) := by decide +kernel
theorem dX5_ofStack_70 : decode cX5_ofStack 70 = .ok (.iload_n 1, 1) := by decide +kernel
theorem dX5_ofStack_71 : decode cX5_ofStack 71 = .ok (.invokevirtual 82, 3) := by decide +kernel
theorem dX5_ofStack_74 : decode cX5_ofStack 74 = .ok (.iconst 1, 1) := by decide +kernel
theorem dX5_ofStack_75 : decode cX5_ofStack 75 = .ok (.isub, 1) := by decide +kernel
theorem dX5_ofStack_76 : decode cX5_ofStack 76 = .ok (.invokevirtual 88, 3) := by decide +kernel
theorem dX5_ofStack_79 : decode cX5_ofStack 79 = .ok (.ireturn, 1) := by decide +kernel
theorem dX5_ofStack_80 : decode cX5_ofStack 80 = .ok (.aload_n 0, 1) := by decide +kernel
theorem dX5_ofStack_81 : decode cX5_ofStack 81 = .ok (.iload_n 1, 1) := by decide +kernel
theorem dX5_ofStack_82 : decode cX5_ofStack 82 = .ok (.iconst 2, 1) := by decide +kernel
theorem dX5_ofStack_83 : decode cX5_ofStack 83 = .ok (.invokevirtual 187, 3) := by decide +kernel
theorem dX5_ofStack_86 : decode cX5_ofStack 86 = .ok (.ireturn, 1) := by decide +kernel
theorem dX5_ofStack_87 : decode cX5_ofStack 87 = .ok (.aload_n 0, 1) := by decide +kernel
theorem dX5_ofStack_88 : decode cX5_ofStack 88 = .ok (.iload_n 1, 1) := by decide +kernel
theorem dX5_ofStack_89 : decode cX5_ofStack 89 = .ok (.iconst 0, 1) := by decide +kernel
theorem dX5_ofStack_90 : decode cX5_ofStack 90 = .ok (.invokevirtual 190, 3) := by decide +kernel
theorem dX5_ofStack_93 : decode cX5_ofStack 93 = .ok (.sipush 1000, 3) := by decide +kernel
theorem dX5_ofStack_96 : decode cX5_ofStack 96 = .ok (.aload_n 0, 1) := by decide +kernel
theorem dX5_ofStack_97 : decode cX5_ofStack 97 = .ok (.iload_n 1, 1) := by decide +kernel
theorem dX5_ofStack_98 : decode cX5_ofStack 98 = .ok (.iconst 0, 1) := by decide +kernel
theorem dX5_ofStack_99 : decode cX5_ofStack 99 = .ok (.invokevirtual 187, 3) := by decide +kernel
theorem dX5_ofStack_102 : decode cX5_ofStack 102 = .ok (.imul, 1) := by decide +kernel
theorem dX5_ofStack_103 : decode cX5_ofStack 103 = .ok (.isub, 1) := by decide +kernel
theorem dX5_ofStack_104 : decode cX5_ofStack 104 = .ok (.invokestatic 64, 3) := by decide +kernel
theorem dX5_ofStack_107 : decode cX5_ofStack 107 = .ok (.ireturn, 1) := by decide +kernel
set_option maxRecDepth 20000 in
theorem ggX5_stackOf_X5_isStack : GoodIn wsX5_stackOf wsX5_isStack := goodIn_r _ [5, 6, 7, 4, 8] (by decide +kernel) (by decide +kernel)
set_option maxRecDepth 20000 in
theorem gX5_stackOf_X5_isStack : GoodIn wsX5_stackOf (va_wsS RX5 129 yX5_isStack wsX5_isStack) := goodIn_app (goodIn_of _ (by decide +kernel)) ggX5_stackOf_X5_isStack
set_option maxRecDepth 20000 in
theorem ggX5_stackOf_X5_fails : GoodIn wsX5_stackOf wsX5_fails := goodIn_r _ [12, 1, 56, 57, 58, 59, 60, 61, 62, 63, 64, 65, 66, 67, 68, 69, 70, 71, 72, 73] (by decide +kernel) (by decide +kernel)
set_option maxRecDepth 20000 in
theorem gX5_stackOf_X5_fails : GoodIn wsX5_stackOf (wsV RX5 50 RX5 yX5_fails wsX5_fails) := goodIn_app (goodIn_of _ (by decide +kernel)) ggX5_stackOf_X5_fails
set_option maxRecDepth 20000 in
theorem ggX5_stackOf_X5_in : GoodIn wsX5_stackOf wsX5_in := goodIn_r _ [8] (by decide +kernel) (by decide +kernel)
set_option maxRecDepth 20000 in
theorem gX5_stackOf_X5_in : GoodIn wsX5_stackOf (va_wsS RX5 42 yX5_in wsX5_in) := goodIn_app (goodIn_of _ (by decide +kernel)) ggX5_stackOf_X5_in
set_option maxRecDepth 20000 in
theorem ggX5_stackOf_X5_ofStack : GoodIn wsX5_stackOf wsX5_ofStack := goodIn_r _ [16, 17, 18, 19, 4, 20, 21, 22, 23, 24, 25, 26, 27, 28, 29, 30, 31, 32, 33, 34, 35, 36, 37, 38, 39, 40, 41, 42, 43, 44, 45, 46, 47, 48, 49, 50, 51, 52, 53, 54, 55, 56, 57, 58, 59, 60, 61, 62, 63, 64, 65, 66, 67, 68, 69, 70, 71, 72, 73] (by decide +kernel) (by decide +kernel)
set_option maxRecDepth 20000 in
theorem gX5_stackOf_X5_ofStack : GoodIn wsX5_stackOf (wsV RX5 193 RX5 yX5_ofStack wsX5_ofStack) := goodIn_app (goodIn_of _ (by decide +kernel)) ggX5_stackOf_X5_ofStack
theorem dX5_stackOf_0 : decode cX5_stackOf 0 = .ok (.aload_n 0, 1) := by decide +kernel
theorem dX5_stackOf_1 : decode cX5_stackOf 1 = .ok (.iconst 0, 1) := by decide +kernel
theorem dX5_stackOf_2 : decode cX5_stackOf 2 = .ok (.putfield 38, 3) := by decide +kernel
theorem dX5_stackOf_5 : decode cX5_stackOf 5 = .ok (.iload_n 1, 1) := by decide +kernel
theorem dX5_stackOf_6 : decode cX5_stackOf 6 = .ok (.invokestatic 129, 3) := by decide +kernel
theorem dX5_stackOf_9 : decode cX5_stackOf 9 = .ok (.ifCond .ne 9, 3) := by decide +kernel
theorem dX5_stackOf_12 : decode cX5_stackOf 12 = .ok (.aload_n 0, 1) := by decide +kernel
theorem dX5_stackOf_13 : decode cX5_stackOf 13 = .ok (.iconst 1, 1) := by decide +kernel
theorem dX5_stackOf_14 : decode cX5_stackOf 14 = .ok (.invokevirtual 50, 3) := by decide +kernel
theorem dX5_stackOf_17 : decode cX5_stackOf 17 = .ok (.ireturn, 1) := by decide +kernel
theorem dX5_stackOf_18 : decode cX5_stackOf 18 = .ok (.iload_n 2, 1) := by decide +kernel
theorem dX5_stackOf_19 : decode cX5_stackOf 19 = .ok (.iconst 0, 1) := by decide +kernel
theorem dX5_stackOf_20 : decode cX5_stackOf 20 = .ok (.bipush 6, 2) := by decide +kernel
theorem dX5_stackOf_22 : decode cX5_stackOf 22 = .ok (.invokestatic 42, 3) := by decide +kernel
theorem dX5_stackOf_25 : decode cX5_stackOf 25 = .ok (.ifCond .eq 12, 3) := by decide +kernel
theorem dX5_stackOf_28 : decode cX5_stackOf 28 = .ok (.aload_n 0, 1) := by decide +kernel
theorem dX5_stackOf_29 : decode cX5_stackOf 29 = .ok (.iload_n 1, 1) := by decide +kernel
theorem dX5_stackOf_30 : decode cX5_stackOf 30 = .ok (.iload_n 2, 1) := by decide +kernel
theorem dX5_stackOf_31 : decode cX5_stackOf 31 = .ok (.invokevirtual 193, 3) := by decide +kernel
theorem dX5_stackOf_34 : decode cX5_stackOf 34 = .ok (.goto 8, 3) := by decide +kernel
theorem dX5_stackOf_37 : decode cX5_stackOf 37 = .ok (.aload_n 0, 1) := by decide +kernel
theorem dX5_stackOf_38 : decode cX5_stackOf 38 = .ok (.iconst 2, 1) := by decide +kernel
theorem dX5_stackOf_39 : decode cX5_stackOf 39 = .ok (.invokevirtual 50, 3) := by decide +kernel
theorem dX5_stackOf_42 : decode cX5_stackOf 42 = .ok (.ireturn, 1) := by decide +kernel
set_option maxRecDepth 20000 in
theorem ggX5_keyOf_X5_of : GoodIn wsX5_keyOf wsX5_of := goodIn_r _ [5, 6, 14, 15, 16, 17, 18, 19, 20, 21, 22, 23, 24, 25, 26, 27, 28, 29, 30, 31] (by decide +kernel) (by decide +kernel)
set_option maxRecDepth 20000 in
theorem gX5_keyOf_X5_of : GoodIn wsX5_keyOf (wsV RX5 57 RX5 yX5_of wsX5_of) := goodIn_app (goodIn_of _ (by decide +kernel)) ggX5_keyOf_X5_of
set_option maxRecDepth 20000 in
theorem ggX5_keyOf_X5_error : GoodIn wsX5_keyOf wsX5_error := goodIn_r _ [10, 1, 2, 3, 4, 5, 6, 14, 15, 16, 17, 18, 19, 20, 21, 22, 23, 24, 25, 26, 27, 28, 29, 30, 31] (by decide +kernel) (by decide +kernel)
set_option maxRecDepth 20000 in
theorem gX5_keyOf_X5_error : GoodIn wsX5_keyOf (wsV RX5 61 RX5 yX5_error wsX5_error) := goodIn_app (goodIn_of _ (by decide +kernel)) ggX5_keyOf_X5_error
set_option maxRecDepth 20000 in
theorem ggX5_keyOf_X5_size : GoodIn wsX5_keyOf wsX5_size := goodIn_r _ [13] (by decide +kernel) (by decide +kernel)
set_option maxRecDepth 20000 in
theorem gX5_keyOf_X5_size : GoodIn wsX5_keyOf (va_wsS RX5 64 yX5_size wsX5_size) := goodIn_app (goodIn_of _ (by decide +kernel)) ggX5_keyOf_X5_size
theorem dX5_keyOf_0 : decode cX5_keyOf 0 = .ok (.iload_n 2, 1) := by decide +kernel
theorem dX5_keyOf_1 : decode cX5_keyOf 1 = .ok (.ifCond .ne 13, 3) := by decide +kernel
theorem dX5_keyOf_4 : decode cX5_keyOf 4 = .ok (.aload_n 0, 1) := by decide +kernel
theorem dX5_keyOf_5 : decode cX5_keyOf 5 = .ok (.iload_n 1, 1) := by decide +kernel
theorem dX5_keyOf_6 : decode cX5_keyOf 6 = .ok (.iconst 0, 1) := by decide +kernel
theorem dX5_keyOf_7 : decode cX5_keyOf 7 = .ok (.invokevirtual 57, 3) := by decide +kernel
theorem dX5_keyOf_10 : decode cX5_keyOf 10 = .ok (.ineg, 1) := by decide +kernel
theorem dX5_keyOf_11 : decode cX5_keyOf 11 = .ok (.goto 25, 3) := by decide +kernel
theorem dX5_keyOf_14 : decode cX5_keyOf 14 = .ok (.iload_n 2, 1) := by decide +kernel
theorem dX5_keyOf_15 : decode cX5_keyOf 15 = .ok (.iconst 1, 1) := by decide +kernel
theorem dX5_keyOf_16 : decode cX5_keyOf 16 = .ok (.if_icmp .ne 12, 3) := by decide +kernel
theorem dX5_keyOf_19 : decode cX5_keyOf 19 = .ok (.aload_n 0, 1) := by decide +kernel
theorem dX5_keyOf_20 : decode cX5_keyOf 20 = .ok (.iload_n 1, 1) := by decide +kernel
theorem dX5_keyOf_21 : decode cX5_keyOf 21 = .ok (.iconst 3, 1) := by decide +kernel
theorem dX5_keyOf_22 : decode cX5_keyOf 22 = .ok (.invokevirtual 57, 3) := by decide +kernel
theorem dX5_keyOf_25 : decode cX5_keyOf 25 = .ok (.goto 11, 3) := by decide +kernel
theorem dX5_keyOf_28 : decode cX5_keyOf 28 = .ok (.aload_n 0, 1) := by decide +kernel
theorem dX5_keyOf_29 : decode cX5_keyOf 29 = .ok (.iload_n 1, 1) := by decide +kernel
theorem dX5_keyOf_30 : decode cX5_keyOf 30 = .ok (.invokevirtual 61, 3) := by decide +kernel
theorem dX5_keyOf_33 : decode cX5_keyOf 33 = .ok (.invokestatic 64, 3) := by decide +kernel
theorem dX5_keyOf_36 : decode cX5_keyOf 36 = .ok (.ireturn, 1) := by decide +kernel
set_option maxRecDepth 20000 in
theorem ggX5_blockOfRank_X5_keyOf : GoodIn wsX5_blockOfRank wsX5_keyOf := goodIn_r _ [6, 7, 8, 9, 5, 10, 1, 11, 12, 13, 14, 15, 16, 17, 18, 19, 20, 21, 22, 23, 24, 25, 26, 27, 28, 29, 30, 31, 32, 33, 34, 35] (by decide +kernel) (by decide +kernel)
set_option maxRecDepth 20000 in
theorem gX5_blockOfRank_X5_keyOf : GoodIn wsX5_blockOfRank (wsV RX5 196 RX5 yX5_keyOf wsX5_keyOf) := goodIn_app (goodIn_of _ (by decide +kernel)) ggX5_blockOfRank_X5_keyOf
theorem dX5_blockOfRank_0 : decode cX5_blockOfRank 0 = .ok (.iconst (-1), 1) := by decide +kernel
theorem dX5_blockOfRank_1 : decode cX5_blockOfRank 1 = .ok (.istore_n 3, 1) := by decide +kernel
theorem dX5_blockOfRank_2 : decode cX5_blockOfRank 2 = .ok (.iconst 0, 1) := by decide +kernel
theorem dX5_blockOfRank_3 : decode cX5_blockOfRank 3 = .ok (.istore 4, 2) := by decide +kernel
theorem dX5_blockOfRank_5 : decode cX5_blockOfRank 5 = .ok (.iload 4, 2) := by decide +kernel
theorem dX5_blockOfRank_7 : decode cX5_blockOfRank 7 = .ok (.aload_n 0, 1) := by decide +kernel
theorem dX5_blockOfRank_8 : decode cX5_blockOfRank 8 = .ok (.getfield 7, 3) := by decide +kernel
theorem dX5_blockOfRank_11 : decode cX5_blockOfRank 11 = .ok (.bipush 8, 2) := by decide +kernel
theorem dX5_blockOfRank_13 : decode cX5_blockOfRank 13 = .ok (.iaload, 1) := by decide +kernel
theorem dX5_blockOfRank_14 : decode cX5_blockOfRank 14 = .ok (.if_icmp .ge 90, 3) := by decide +kernel
theorem dX5_blockOfRank_17 : decode cX5_blockOfRank 17 = .ok (.iconst 0, 1) := by decide +kernel
theorem dX5_blockOfRank_18 : decode cX5_blockOfRank 18 = .ok (.istore 5, 2) := by decide +kernel
theorem dX5_blockOfRank_20 : decode cX5_blockOfRank 20 = .ok (.iconst 0, 1) := by decide +kernel
theorem dX5_blockOfRank_21 : decode cX5_blockOfRank 21 = .ok (.istore 6, 2) := by decide +kernel
theorem dX5_blockOfRank_23 : decode cX5_blockOfRank 23 = .ok (.iload 6, 2) := by decide +kernel
theorem dX5_blockOfRank_25 : decode cX5_blockOfRank 25 = .ok (.aload_n 0, 1) := by decide +kernel
theorem dX5_blockOfRank_26 : decode cX5_blockOfRank 26 = .ok (.getfield 7, 3) := by decide +kernel
theorem dX5_blockOfRank_29 : decode cX5_blockOfRank 29 = .ok (.bipush 8, 2) := by decide +kernel
theorem dX5_blockOfRank_31 : decode cX5_blockOfRank 31 = .ok (.iaload, 1) := by decide +kernel
theorem dX5_blockOfRank_32 : decode cX5_blockOfRank 32 = .ok (.if_icmp .ge 53, 3) := by decide +kernel
theorem dX5_blockOfRank_35 : decode cX5_blockOfRank 35 = .ok (.aload_n 0, 1) := by decide +kernel
theorem dX5_blockOfRank_36 : decode cX5_blockOfRank 36 = .ok (.iload 6, 2) := by decide +kernel
theorem dX5_blockOfRank_38 : decode cX5_blockOfRank 38 = .ok (.iload_n 1, 1) := by decide +kernel
theorem dX5_blockOfRank_39 : decode cX5_blockOfRank 39 = .ok (.invokevirtual 196, 3) := by decide +kernel
theorem dX5_blockOfRank_42 : decode cX5_blockOfRank 42 = .ok (.aload_n 0, 1) := by decide +kernel
theorem dX5_blockOfRank_43 : decode cX5_blockOfRank 43 = .ok (.iload 4, 2) := by decide +kernel
theorem dX5_blockOfRank_45 : decode cX5_blockOfRank 45 = .ok (.iload_n 1, 1) := by decide +kernel
theorem dX5_blockOfRank_46 : decode cX5_blockOfRank 46 = .ok (.invokevirtual 196, 3) := by decide +kernel
theorem dX5_blockOfRank_49 : decode cX5_blockOfRank 49 = .ok (.isub, 1) := by decide +kernel
theorem dX5_blockOfRank_50 : decode cX5_blockOfRank 50 = .ok (.istore 7, 2) := by decide +kernel
theorem dX5_blockOfRank_52 : decode cX5_blockOfRank 52 = .ok (.iload 5, 2) := by decide +kernel
theorem dX5_blockOfRank_54 : decode cX5_blockOfRank 54 = .ok (.iload 7, 2) := by decide +kernel
theorem dX5_blockOfRank_56 : decode cX5_blockOfRank 56 = .ok (.ifCond .gt 15, 3) := by decide +kernel
theorem dX5_blockOfRank_59 : decode cX5_blockOfRank 59 = .ok (.iload 7, 2) := by decide +kernel
theorem dX5_blockOfRank_61 : decode cX5_blockOfRank 61 = .ok (.ifCond .ne 14, 3) := by decide +kernel
theorem dX5_blockOfRank_64 : decode cX5_blockOfRank 64 = .ok (.iload 6, 2) := by decide +kernel
theorem dX5_blockOfRank_66 : decode cX5_blockOfRank 66 = .ok (.iload 4, 2) := by decide +kernel
theorem dX5_blockOfRank_68 : decode cX5_blockOfRank 68 = .ok (.if_icmp .ge 7, 3) := by decide +kernel
theorem dX5_blockOfRank_71 : decode cX5_blockOfRank 71 = .ok (.iconst 1, 1) := by decide +kernel
theorem dX5_blockOfRank_72 : decode cX5_blockOfRank 72 = .ok (.goto 4, 3) := by decide +kernel
theorem dX5_blockOfRank_75 : decode cX5_blockOfRank 75 = .ok (.iconst 0, 1) := by decide +kernel
theorem dX5_blockOfRank_76 : decode cX5_blockOfRank 76 = .ok (.iadd, 1) := by decide +kernel
theorem dX5_blockOfRank_77 : decode cX5_blockOfRank 77 = .ok (.istore 5, 2) := by decide +kernel
theorem dX5_blockOfRank_79 : decode cX5_blockOfRank 79 = .ok (.iinc 6 1, 3) := by decide +kernel
theorem dX5_blockOfRank_82 : decode cX5_blockOfRank 82 = .ok (.goto (-59), 3) := by decide +kernel
theorem dX5_blockOfRank_85 : decode cX5_blockOfRank 85 = .ok (.iload 5, 2) := by decide +kernel
theorem dX5_blockOfRank_87 : decode cX5_blockOfRank 87 = .ok (.iload_n 2, 1) := by decide +kernel
theorem dX5_blockOfRank_88 : decode cX5_blockOfRank 88 = .ok (.if_icmp .ne 8, 3) := by decide +kernel
theorem dX5_blockOfRank_91 : decode cX5_blockOfRank 91 = .ok (.iload 4, 2) := by decide +kernel
theorem dX5_blockOfRank_93 : decode cX5_blockOfRank 93 = .ok (.goto 4, 3) := by decide +kernel
theorem dX5_blockOfRank_96 : decode cX5_blockOfRank 96 = .ok (.iload_n 3, 1) := by decide +kernel
theorem dX5_blockOfRank_97 : decode cX5_blockOfRank 97 = .ok (.istore_n 3, 1) := by decide +kernel
theorem dX5_blockOfRank_98 : decode cX5_blockOfRank 98 = .ok (.iinc 4 1, 3) := by decide +kernel
theorem dX5_blockOfRank_101 : decode cX5_blockOfRank 101 = .ok (.goto (-96), 3) := by decide +kernel
theorem dX5_blockOfRank_104 : decode cX5_blockOfRank 104 = .ok (.iload_n 3, 1) := by decide +kernel
theorem dX5_blockOfRank_105 : decode cX5_blockOfRank 105 = .ok (.ireturn, 1) := by decide +kernel
set_option maxRecDepth 20000 in
theorem ggX5_ranked_X5_in : GoodIn wsX5_ranked wsX5_in := goodIn_r _ [5] (by decide +kernel) (by decide +kernel)
set_option maxRecDepth 20000 in
theorem gX5_ranked_X5_in : GoodIn wsX5_ranked (va_wsS RX5 42 yX5_in wsX5_in) := goodIn_app (goodIn_of _ (by decide +kernel)) ggX5_ranked_X5_in
set_option maxRecDepth 20000 in
theorem ggX5_ranked_X5_blockOfRank : GoodIn wsX5_ranked wsX5_blockOfRank := goodIn_r _ [9, 10, 11, 12, 13, 4, 14, 15, 16, 17, 18, 19, 20, 21, 22, 23, 24, 25, 30, 31, 32, 33, 34, 35, 36, 37, 38, 39, 40, 41, 42, 43, 44, 45, 46, 47] (by decide +kernel) (by decide +kernel)
set_option maxRecDepth 20000 in
theorem gX5_ranked_X5_blockOfRank : GoodIn wsX5_ranked (wsV RX5 199 RX5 yX5_blockOfRank wsX5_blockOfRank) := goodIn_app (goodIn_of _ (by decide +kernel)) ggX5_ranked_X5_blockOfRank
set_option maxRecDepth 20000 in
theorem ggX5_ranked_X5_fails : GoodIn wsX5_ranked wsX5_fails := goodIn_r _ [29, 1, 30, 31, 32, 33, 34, 35, 36, 37, 38, 39, 40, 41, 42, 43, 44, 45, 46, 47] (by decide +kernel) (by decide +kernel)
set_option maxRecDepth 20000 in
theorem gX5_ranked_X5_fails : GoodIn wsX5_ranked (wsV RX5 50 RX5 yX5_fails wsX5_fails) := goodIn_app (goodIn_of _ (by decide +kernel)) ggX5_ranked_X5_fails
theorem dX5_ranked_0 : decode cX5_ranked 0 = .ok (.aload_n 0, 1) := by decide +kernel
theorem dX5_ranked_1 : decode cX5_ranked 1 = .ok (.iconst 0, 1) := by decide +kernel
theorem dX5_ranked_2 : decode cX5_ranked 2 = .ok (.putfield 38, 3) := by decide +kernel
theorem dX5_ranked_5 : decode cX5_ranked 5 = .ok (.iload_n 1, 1) := by decide +kernel
theorem dX5_ranked_6 : decode cX5_ranked 6 = .ok (.iconst 0, 1) := by decide +kernel
theorem dX5_ranked_7 : decode cX5_ranked 7 = .ok (.iconst 2, 1) := by decide +kernel
theorem dX5_ranked_8 : decode cX5_ranked 8 = .ok (.invokestatic 42, 3) := by decide +kernel
theorem dX5_ranked_11 : decode cX5_ranked 11 = .ok (.ifCond .eq 16, 3) := by decide +kernel
theorem dX5_ranked_14 : decode cX5_ranked 14 = .ok (.iload_n 2, 1) := by decide +kernel
theorem dX5_ranked_15 : decode cX5_ranked 15 = .ok (.ifCond .lt 12, 3) := by decide +kernel
theorem dX5_ranked_18 : decode cX5_ranked 18 = .ok (.aload_n 0, 1) := by decide +kernel
theorem dX5_ranked_19 : decode cX5_ranked 19 = .ok (.iload_n 1, 1) := by decide +kernel
theorem dX5_ranked_20 : decode cX5_ranked 20 = .ok (.iload_n 2, 1) := by decide +kernel
theorem dX5_ranked_21 : decode cX5_ranked 21 = .ok (.invokevirtual 199, 3) := by decide +kernel
theorem dX5_ranked_24 : decode cX5_ranked 24 = .ok (.goto 8, 3) := by decide +kernel
theorem dX5_ranked_27 : decode cX5_ranked 27 = .ok (.aload_n 0, 1) := by decide +kernel
theorem dX5_ranked_28 : decode cX5_ranked 28 = .ok (.iconst 1, 1) := by decide +kernel
theorem dX5_ranked_29 : decode cX5_ranked 29 = .ok (.invokevirtual 50, 3) := by decide +kernel
theorem dX5_ranked_32 : decode cX5_ranked 32 = .ok (.ireturn, 1) := by decide +kernel
set_option maxRecDepth 20000 in
theorem ggX5_lengthBeyond_X5_of : GoodIn wsX5_lengthBeyond wsX5_of := goodIn_r _ [6, 1, 11, 12, 13, 14, 15, 16, 17, 18, 19, 20, 21, 22, 23, 24, 25, 26, 27, 28] (by decide +kernel) (by decide +kernel)
set_option maxRecDepth 20000 in
theorem gX5_lengthBeyond_X5_of : GoodIn wsX5_lengthBeyond (wsV RX5 57 RX5 yX5_of wsX5_of) := goodIn_app (goodIn_of _ (by decide +kernel)) ggX5_lengthBeyond_X5_of
set_option maxRecDepth 20000 in
theorem ggX5_lengthBeyond_X5_isFree : GoodIn wsX5_lengthBeyond wsX5_isFree := goodIn_r _ [10, 2, 3, 4, 5, 6, 1, 11, 12, 13, 14, 15, 16, 17, 18, 19, 20, 21, 22, 23, 24, 25, 26, 27, 28] (by decide +kernel) (by decide +kernel)
set_option maxRecDepth 20000 in
theorem gX5_lengthBeyond_X5_isFree : GoodIn wsX5_lengthBeyond (wsV RX5 78 RX5 yX5_isFree wsX5_isFree) := goodIn_app (goodIn_of _ (by decide +kernel)) ggX5_lengthBeyond_X5_isFree
theorem dX5_lengthBeyond_0 : decode cX5_lengthBeyond 0 = .ok (.iconst (-1), 1) := by decide +kernel
theorem dX5_lengthBeyond_1 : decode cX5_lengthBeyond 1 = .ok (.istore_n 2, 1) := by decide +kernel
theorem dX5_lengthBeyond_2 : decode cX5_lengthBeyond 2 = .ok (.iconst 0, 1) := by decide +kernel
theorem dX5_lengthBeyond_3 : decode cX5_lengthBeyond 3 = .ok (.istore_n 3, 1) := by decide +kernel
theorem dX5_lengthBeyond_4 : decode cX5_lengthBeyond 4 = .ok (.iload_n 3, 1) := by decide +kernel
theorem dX5_lengthBeyond_5 : decode cX5_lengthBeyond 5 = .ok (.aload_n 0, 1) := by decide +kernel
theorem dX5_lengthBeyond_6 : decode cX5_lengthBeyond 6 = .ok (.getfield 7, 3) := by decide +kernel
theorem dX5_lengthBeyond_9 : decode cX5_lengthBeyond 9 = .ok (.bipush 8, 2) := by decide +kernel
theorem dX5_lengthBeyond_11 : decode cX5_lengthBeyond 11 = .ok (.iaload, 1) := by decide +kernel
theorem dX5_lengthBeyond_12 : decode cX5_lengthBeyond 12 = .ok (.if_icmp .ge 49, 3) := by decide +kernel
theorem dX5_lengthBeyond_15 : decode cX5_lengthBeyond 15 = .ok (.aload_n 0, 1) := by decide +kernel
theorem dX5_lengthBeyond_16 : decode cX5_lengthBeyond 16 = .ok (.iload_n 3, 1) := by decide +kernel
theorem dX5_lengthBeyond_17 : decode cX5_lengthBeyond 17 = .ok (.iconst 0, 1) := by decide +kernel
theorem dX5_lengthBeyond_18 : decode cX5_lengthBeyond 18 = .ok (.invokevirtual 57, 3) := by decide +kernel
theorem dX5_lengthBeyond_21 : decode cX5_lengthBeyond 21 = .ok (.istore 4, 2) := by decide +kernel
theorem dX5_lengthBeyond_23 : decode cX5_lengthBeyond 23 = .ok (.aload_n 0, 1) := by decide +kernel
theorem dX5_lengthBeyond_24 : decode cX5_lengthBeyond 24 = .ok (.iload_n 3, 1) := by decide +kernel
theorem dX5_lengthBeyond_25 : decode cX5_lengthBeyond 25 = .ok (.invokevirtual 78, 3) := by decide +kernel
theorem dX5_lengthBeyond_28 : decode cX5_lengthBeyond 28 = .ok (.ifCond .eq 25, 3) := by decide +kernel
theorem dX5_lengthBeyond_31 : decode cX5_lengthBeyond 31 = .ok (.iload 4, 2) := by decide +kernel
theorem dX5_lengthBeyond_33 : decode cX5_lengthBeyond 33 = .ok (.iload_n 1, 1) := by decide +kernel
theorem dX5_lengthBeyond_34 : decode cX5_lengthBeyond 34 = .ok (.if_icmp .le 19, 3) := by decide +kernel
theorem dX5_lengthBeyond_37 : decode cX5_lengthBeyond 37 = .ok (.iload_n 2, 1) := by decide +kernel
theorem dX5_lengthBeyond_38 : decode cX5_lengthBeyond 38 = .ok (.iconst (-1), 1) := by decide +kernel
theorem dX5_lengthBeyond_39 : decode cX5_lengthBeyond 39 = .ok (.if_icmp .eq 9, 3) := by decide +kernel
theorem dX5_lengthBeyond_42 : decode cX5_lengthBeyond 42 = .ok (.iload 4, 2) := by decide +kernel
theorem dX5_lengthBeyond_44 : decode cX5_lengthBeyond 44 = .ok (.iload_n 2, 1) := by decide +kernel
theorem dX5_lengthBeyond_45 : decode cX5_lengthBeyond 45 = .ok (.if_icmp .ge 8, 3) := by decide +kernel
theorem dX5_lengthBeyond_48 : decode cX5_lengthBeyond 48 = .ok (.iload 4, 2) := by decide +kernel
theorem dX5_lengthBeyond_50 : decode cX5_lengthBeyond 50 = .ok (.goto 4, 3) := by decide +kernel
theorem dX5_lengthBeyond_53 : decode cX5_lengthBeyond 53 = .ok (.iload_n 2, 1) := by decide +kernel
theorem dX5_lengthBeyond_54 : decode cX5_lengthBeyond 54 = .ok (.istore_n 2, 1) := by decide +kernel
theorem dX5_lengthBeyond_55 : decode cX5_lengthBeyond 55 = .ok (.iinc 3 1, 3) := by decide +kernel
theorem dX5_lengthBeyond_58 : decode cX5_lengthBeyond 58 = .ok (.goto (-54), 3) := by decide +kernel
theorem dX5_lengthBeyond_61 : decode cX5_lengthBeyond 61 = .ok (.iload_n 2, 1) := by decide +kernel
theorem dX5_lengthBeyond_62 : decode cX5_lengthBeyond 62 = .ok (.ireturn, 1) := by decide +kernel
set_option maxRecDepth 20000 in
theorem ggX5_lengthOfRank_X5_lengthBeyond : GoodIn wsX5_lengthOfRank wsX5_lengthBeyond := goodIn_r _ [5, 6, 7, 8, 9, 4, 10, 11, 12, 13, 14, 15, 16, 17, 18, 19, 20, 21, 22, 23, 24, 25, 26, 27, 28, 29, 30, 31, 32] (by decide +kernel) (by decide +kernel)
set_option maxRecDepth 20000 in
theorem gX5_lengthOfRank_X5_lengthBeyond : GoodIn wsX5_lengthOfRank (wsV RX5 202 RX5 yX5_lengthBeyond wsX5_lengthBeyond) := goodIn_app (goodIn_of _ (by decide +kernel)) ggX5_lengthOfRank_X5_lengthBeyond
theorem dX5_lengthOfRank_0 : decode cX5_lengthOfRank 0 = .ok (.iconst 0, 1) := by decide +kernel
theorem dX5_lengthOfRank_1 : decode cX5_lengthOfRank 1 = .ok (.istore_n 2, 1) := by decide +kernel
theorem dX5_lengthOfRank_2 : decode cX5_lengthOfRank 2 = .ok (.aload_n 0, 1) := by decide +kernel
theorem dX5_lengthOfRank_3 : decode cX5_lengthOfRank 3 = .ok (.iconst 0, 1) := by decide +kernel
theorem dX5_lengthOfRank_4 : decode cX5_lengthOfRank 4 = .ok (.invokevirtual 202, 3) := by decide +kernel
theorem dX5_lengthOfRank_7 : decode cX5_lengthOfRank 7 = .ok (.istore_n 3, 1) := by decide +kernel
theorem dX5_lengthOfRank_8 : decode cX5_lengthOfRank 8 = .ok (.iload_n 3, 1) := by decide +kernel
theorem dX5_lengthOfRank_9 : decode cX5_lengthOfRank 9 = .ok (.iconst (-1), 1) := by decide +kernel
theorem dX5_lengthOfRank_10 : decode cX5_lengthOfRank 10 = .ok (.if_icmp .eq 20, 3) := by decide +kernel
theorem dX5_lengthOfRank_13 : decode cX5_lengthOfRank 13 = .ok (.iload_n 2, 1) := by decide +kernel
theorem dX5_lengthOfRank_14 : decode cX5_lengthOfRank 14 = .ok (.iload_n 1, 1) := by decide +kernel
theorem dX5_lengthOfRank_15 : decode cX5_lengthOfRank 15 = .ok (.if_icmp .eq 15, 3) := by decide +kernel
theorem dX5_lengthOfRank_18 : decode cX5_lengthOfRank 18 = .ok (.aload_n 0, 1) := by decide +kernel
theorem dX5_lengthOfRank_19 : decode cX5_lengthOfRank 19 = .ok (.iload_n 3, 1) := by decide +kernel
theorem dX5_lengthOfRank_20 : decode cX5_lengthOfRank 20 = .ok (.invokevirtual 202, 3) := by decide +kernel
theorem dX5_lengthOfRank_23 : decode cX5_lengthOfRank 23 = .ok (.istore_n 3, 1) := by decide +kernel
theorem dX5_lengthOfRank_24 : decode cX5_lengthOfRank 24 = .ok (.iinc 2 1, 3) := by decide +kernel
theorem dX5_lengthOfRank_27 : decode cX5_lengthOfRank 27 = .ok (.goto (-19), 3) := by decide +kernel
theorem dX5_lengthOfRank_30 : decode cX5_lengthOfRank 30 = .ok (.iload_n 1, 1) := by decide +kernel
theorem dX5_lengthOfRank_31 : decode cX5_lengthOfRank 31 = .ok (.iconst (-1), 1) := by decide +kernel
theorem dX5_lengthOfRank_32 : decode cX5_lengthOfRank 32 = .ok (.if_icmp .ne 7, 3) := by decide +kernel
theorem dX5_lengthOfRank_35 : decode cX5_lengthOfRank 35 = .ok (.iload_n 2, 1) := by decide +kernel
theorem dX5_lengthOfRank_36 : decode cX5_lengthOfRank 36 = .ok (.goto 4, 3) := by decide +kernel
theorem dX5_lengthOfRank_39 : decode cX5_lengthOfRank 39 = .ok (.iload_n 3, 1) := by decide +kernel
theorem dX5_lengthOfRank_40 : decode cX5_lengthOfRank 40 = .ok (.ireturn, 1) := by decide +kernel
set_option maxRecDepth 20000 in
theorem ggX5_lengths_X5_fails : GoodIn wsX5_lengths wsX5_fails := goodIn_r _ [6, 1, 24, 25, 26, 27, 28, 29, 30, 31, 32, 33, 34, 35, 36, 37, 38, 39, 40, 41] (by decide +kernel) (by decide +kernel)
set_option maxRecDepth 20000 in
theorem gX5_lengths_X5_fails : GoodIn wsX5_lengths (wsV RX5 50 RX5 yX5_fails wsX5_fails) := goodIn_app (goodIn_of _ (by decide +kernel)) ggX5_lengths_X5_fails
set_option maxRecDepth 20000 in
theorem ggX5_lengths_X5_lengthOfRank : GoodIn wsX5_lengths wsX5_lengthOfRank := goodIn_r _ [10, 11, 12, 13, 5, 14, 15, 16, 17, 18, 19, 20, 21, 22, 23, 24, 25, 26, 27, 28, 29, 30, 31, 32, 33, 34, 35, 36, 37, 38, 39, 40, 41] (by decide +kernel) (by decide +kernel)
set_option maxRecDepth 20000 in
theorem gX5_lengths_X5_lengthOfRank : GoodIn wsX5_lengths (wsV RX5 205 RX5 yX5_lengthOfRank wsX5_lengthOfRank) := goodIn_app (goodIn_of _ (by decide +kernel)) ggX5_lengths_X5_lengthOfRank
theorem dX5_lengths_0 : decode cX5_lengths 0 = .ok (.aload_n 0, 1) := by decide +kernel
theorem dX5_lengths_1 : decode cX5_lengths 1 = .ok (.iconst 0, 1) := by decide +kernel
theorem dX5_lengths_2 : decode cX5_lengths 2 = .ok (.putfield 38, 3) := by decide +kernel
theorem dX5_lengths_5 : decode cX5_lengths 5 = .ok (.iload_n 1, 1) := by decide +kernel
theorem dX5_lengths_6 : decode cX5_lengths 6 = .ok (.iconst (-1), 1) := by decide +kernel
theorem dX5_lengths_7 : decode cX5_lengths 7 = .ok (.if_icmp .ge 11, 3) := by decide +kernel
theorem dX5_lengths_10 : decode cX5_lengths 10 = .ok (.aload_n 0, 1) := by decide +kernel
theorem dX5_lengths_11 : decode cX5_lengths 11 = .ok (.iconst 1, 1) := by decide +kernel
theorem dX5_lengths_12 : decode cX5_lengths 12 = .ok (.invokevirtual 50, 3) := by decide +kernel
theorem dX5_lengths_15 : decode cX5_lengths 15 = .ok (.goto 8, 3) := by decide +kernel
theorem dX5_lengths_18 : decode cX5_lengths 18 = .ok (.aload_n 0, 1) := by decide +kernel
theorem dX5_lengths_19 : decode cX5_lengths 19 = .ok (.iload_n 1, 1) := by decide +kernel
theorem dX5_lengths_20 : decode cX5_lengths 20 = .ok (.invokevirtual 205, 3) := by decide +kernel
theorem dX5_lengths_23 : decode cX5_lengths 23 = .ok (.ireturn, 1) := by decide +kernel
set_option maxRecDepth 20000 in
theorem ggX5_freeSet_X5_lookForFree : GoodIn wsX5_freeSet wsX5_lookForFree := goodIn_r _ [6, 1, 7, 8, 9, 10, 11, 5, 12, 13, 14, 15, 16, 21, 22, 23, 24, 25, 26, 27, 28, 29, 30, 31, 32, 33, 34, 35, 36, 37, 38] (by decide +kernel) (by decide +kernel)
set_option maxRecDepth 20000 in
theorem gX5_freeSet_X5_lookForFree : GoodIn wsX5_freeSet (wsV RX5 100 RX5 yX5_lookForFree wsX5_lookForFree) := goodIn_app (goodIn_of _ (by decide +kernel)) ggX5_freeSet_X5_lookForFree
set_option maxRecDepth 20000 in
theorem ggX5_freeSet_X5_byNumbers : GoodIn wsX5_freeSet wsX5_byNumbers := goodIn_r _ [20, 1, 8, 21, 22, 23, 24, 25, 26, 27, 28, 29, 30, 31, 32, 33, 34, 35, 36, 37, 38] (by decide +kernel) (by decide +kernel)
set_option maxRecDepth 20000 in
theorem gX5_freeSet_X5_byNumbers : GoodIn wsX5_freeSet (wsV RX5 106 RX5 yX5_byNumbers wsX5_byNumbers) := goodIn_app (goodIn_of _ (by decide +kernel)) ggX5_freeSet_X5_byNumbers
theorem dX5_freeSet_0 : decode cX5_freeSet 0 = .ok (.aload_n 0, 1) := by decide +kernel
theorem dX5_freeSet_1 : decode cX5_freeSet 1 = .ok (.invokevirtual 100, 3) := by decide +kernel
theorem dX5_freeSet_4 : decode cX5_freeSet 4 = .ok (.aload_n 0, 1) := by decide +kernel
theorem dX5_freeSet_5 : decode cX5_freeSet 5 = .ok (.iconst 1, 1) := by decide +kernel
theorem dX5_freeSet_6 : decode cX5_freeSet 6 = .ok (.aload_n 0, 1) := by decide +kernel
theorem dX5_freeSet_7 : decode cX5_freeSet 7 = .ok (.getfield 97, 3) := by decide +kernel
theorem dX5_freeSet_10 : decode cX5_freeSet 10 = .ok (.ishl, 1) := by decide +kernel
theorem dX5_freeSet_11 : decode cX5_freeSet 11 = .ok (.iconst 1, 1) := by decide +kernel
theorem dX5_freeSet_12 : decode cX5_freeSet 12 = .ok (.isub, 1) := by decide +kernel
theorem dX5_freeSet_13 : decode cX5_freeSet 13 = .ok (.invokevirtual 106, 3) := by decide +kernel
theorem dX5_freeSet_16 : decode cX5_freeSet 16 = .ok (.ireturn, 1) := by decide +kernel
set_option maxRecDepth 20000 in
theorem ggX5_wearOfAll_X5_of : GoodIn wsX5_wearOfAll wsX5_of := goodIn_r _ [6, 1, 7, 8, 9, 10, 11, 12, 13, 14, 15, 16, 17, 18, 19, 20, 21, 22, 23, 24] (by decide +kernel) (by decide +kernel)
set_option maxRecDepth 20000 in
theorem gX5_wearOfAll_X5_of : GoodIn wsX5_wearOfAll (wsV RX5 57 RX5 yX5_of wsX5_of) := goodIn_app (goodIn_of _ (by decide +kernel)) ggX5_wearOfAll_X5_of
theorem dX5_wearOfAll_0 : decode cX5_wearOfAll 0 = .ok (.iconst 0, 1) := by decide +kernel
theorem dX5_wearOfAll_1 : decode cX5_wearOfAll 1 = .ok (.istore_n 1, 1) := by decide +kernel
theorem dX5_wearOfAll_2 : decode cX5_wearOfAll 2 = .ok (.iconst 0, 1) := by decide +kernel
theorem dX5_wearOfAll_3 : decode cX5_wearOfAll 3 = .ok (.istore_n 2, 1) := by decide +kernel
theorem dX5_wearOfAll_4 : decode cX5_wearOfAll 4 = .ok (.iload_n 2, 1) := by decide +kernel
theorem dX5_wearOfAll_5 : decode cX5_wearOfAll 5 = .ok (.aload_n 0, 1) := by decide +kernel
theorem dX5_wearOfAll_6 : decode cX5_wearOfAll 6 = .ok (.getfield 7, 3) := by decide +kernel
theorem dX5_wearOfAll_9 : decode cX5_wearOfAll 9 = .ok (.bipush 8, 2) := by decide +kernel
theorem dX5_wearOfAll_11 : decode cX5_wearOfAll 11 = .ok (.iaload, 1) := by decide +kernel
theorem dX5_wearOfAll_12 : decode cX5_wearOfAll 12 = .ok (.if_icmp .ge 18, 3) := by decide +kernel
theorem dX5_wearOfAll_15 : decode cX5_wearOfAll 15 = .ok (.iload_n 1, 1) := by decide +kernel
theorem dX5_wearOfAll_16 : decode cX5_wearOfAll 16 = .ok (.aload_n 0, 1) := by decide +kernel
theorem dX5_wearOfAll_17 : decode cX5_wearOfAll 17 = .ok (.iload_n 2, 1) := by decide +kernel
theorem dX5_wearOfAll_18 : decode cX5_wearOfAll 18 = .ok (.iconst 2, 1) := by decide +kernel
theorem dX5_wearOfAll_19 : decode cX5_wearOfAll 19 = .ok (.invokevirtual 57, 3) := by decide +kernel
theorem dX5_wearOfAll_22 : decode cX5_wearOfAll 22 = .ok (.iadd, 1) := by decide +kernel
theorem dX5_wearOfAll_23 : decode cX5_wearOfAll 23 = .ok (.istore_n 1, 1) := by decide +kernel
theorem dX5_wearOfAll_24 : decode cX5_wearOfAll 24 = .ok (.iinc 2 1, 3) := by decide +kernel
theorem dX5_wearOfAll_27 : decode cX5_wearOfAll 27 = .ok (.goto (-23), 3) := by decide +kernel
theorem dX5_wearOfAll_30 : decode cX5_wearOfAll 30 = .ok (.iload_n 1, 1) := by decide +kernel
theorem dX5_wearOfAll_31 : decode cX5_wearOfAll 31 = .ok (.ireturn, 1) := by decide +kernel
set_option maxRecDepth 20000 in
theorem ggX5_worstSet_X5_grade : GoodIn wsX5_worstSet wsX5_grade := goodIn_r _ [6, 7, 8, 9, 5, 10, 11, 12, 13, 14, 1, 15, 16, 17, 18, 19, 20, 21, 22, 23, 24, 25, 26, 27, 28, 29, 30, 31, 32, 33, 34, 35] (by decide +kernel) (by decide +kernel)
set_option maxRecDepth 20000 in
theorem gX5_worstSet_X5_grade : GoodIn wsX5_worstSet (wsV RX5 85 RX5 yX5_grade wsX5_grade) := goodIn_app (goodIn_of _ (by decide +kernel)) ggX5_worstSet_X5_grade
theorem dX5_worstSet_0 : decode cX5_worstSet 0 = .ok (.iconst 0, 1) := by decide +kernel
theorem dX5_worstSet_1 : decode cX5_worstSet 1 = .ok (.istore_n 1, 1) := by decide +kernel
theorem dX5_worstSet_2 : decode cX5_worstSet 2 = .ok (.iconst 0, 1) := by decide +kernel
theorem dX5_worstSet_3 : decode cX5_worstSet 3 = .ok (.istore_n 2, 1) := by decide +kernel
theorem dX5_worstSet_4 : decode cX5_worstSet 4 = .ok (.iload_n 2, 1) := by decide +kernel
theorem dX5_worstSet_5 : decode cX5_worstSet 5 = .ok (.aload_n 0, 1) := by decide +kernel
theorem dX5_worstSet_6 : decode cX5_worstSet 6 = .ok (.getfield 7, 3) := by decide +kernel
theorem dX5_worstSet_9 : decode cX5_worstSet 9 = .ok (.bipush 8, 2) := by decide +kernel
theorem dX5_worstSet_11 : decode cX5_worstSet 11 = .ok (.iaload, 1) := by decide +kernel
theorem dX5_worstSet_12 : decode cX5_worstSet 12 = .ok (.if_icmp .ge 28, 3) := by decide +kernel
theorem dX5_worstSet_15 : decode cX5_worstSet 15 = .ok (.iload_n 1, 1) := by decide +kernel
theorem dX5_worstSet_16 : decode cX5_worstSet 16 = .ok (.aload_n 0, 1) := by decide +kernel
theorem dX5_worstSet_17 : decode cX5_worstSet 17 = .ok (.iload_n 2, 1) := by decide +kernel
theorem dX5_worstSet_18 : decode cX5_worstSet 18 = .ok (.invokevirtual 85, 3) := by decide +kernel
theorem dX5_worstSet_21 : decode cX5_worstSet 21 = .ok (.iconst 3, 1) := by decide +kernel
theorem dX5_worstSet_22 : decode cX5_worstSet 22 = .ok (.if_icmp .ne 9, 3) := by decide +kernel
theorem dX5_worstSet_25 : decode cX5_worstSet 25 = .ok (.iconst 1, 1) := by decide +kernel
theorem dX5_worstSet_26 : decode cX5_worstSet 26 = .ok (.iload_n 2, 1) := by decide +kernel
theorem dX5_worstSet_27 : decode cX5_worstSet 27 = .ok (.ishl, 1) := by decide +kernel
theorem dX5_worstSet_28 : decode cX5_worstSet 28 = .ok (.goto 4, 3) := by decide +kernel
theorem dX5_worstSet_31 : decode cX5_worstSet 31 = .ok (.iconst 0, 1) := by decide +kernel
theorem dX5_worstSet_32 : decode cX5_worstSet 32 = .ok (.ior, 1) := by decide +kernel
theorem dX5_worstSet_33 : decode cX5_worstSet 33 = .ok (.istore_n 1, 1) := by decide +kernel
theorem dX5_worstSet_34 : decode cX5_worstSet 34 = .ok (.iinc 2 1, 3) := by decide +kernel
theorem dX5_worstSet_37 : decode cX5_worstSet 37 = .ok (.goto (-33), 3) := by decide +kernel
theorem dX5_worstSet_40 : decode cX5_worstSet 40 = .ok (.iload_n 1, 1) := by decide +kernel
theorem dX5_worstSet_41 : decode cX5_worstSet 41 = .ok (.ireturn, 1) := by decide +kernel
set_option maxRecDepth 20000 in
theorem ggX5_numberOf_X5_freeSet : GoodIn wsX5_numberOf wsX5_freeSet := goodIn_r _ [8, 9, 10, 11, 12, 7, 13, 1, 14, 15, 16, 17, 18, 19, 20, 21, 22, 23, 24, 25, 26, 46, 47, 48, 49, 50, 51, 52, 53, 54, 55, 56, 57, 58, 59, 60, 61, 62, 63] (by decide +kernel) (by decide +kernel)
set_option maxRecDepth 20000 in
theorem gX5_numberOf_X5_freeSet : GoodIn wsX5_numberOf (wsV RX5 208 RX5 yX5_freeSet wsX5_freeSet) := goodIn_app (goodIn_of _ (by decide +kernel)) ggX5_numberOf_X5_freeSet
set_option maxRecDepth 20000 in
theorem ggX5_numberOf_X5_wearOfAll : GoodIn wsX5_numberOf wsX5_wearOfAll := goodIn_r _ [30, 1, 19, 20, 21, 7, 22, 46, 47, 48, 49, 50, 51, 52, 53, 54, 55, 56, 57, 58, 59, 60, 61, 62, 63] (by decide +kernel) (by decide +kernel)
set_option maxRecDepth 20000 in
theorem gX5_numberOf_X5_wearOfAll : GoodIn wsX5_numberOf (wsV RX5 212 RX5 yX5_wearOfAll wsX5_wearOfAll) := goodIn_app (goodIn_of _ (by decide +kernel)) ggX5_numberOf_X5_wearOfAll
set_option maxRecDepth 20000 in
theorem ggX5_numberOf_X5_worstSet : GoodIn wsX5_numberOf wsX5_worstSet := goodIn_r _ [34, 1, 35, 36, 37, 7, 38, 39, 40, 41, 42, 19, 20, 21, 22, 43, 44, 45, 46, 47, 48, 49, 50, 51, 52, 53, 54, 55, 56, 57, 58, 59, 60, 61, 62, 63] (by decide +kernel) (by decide +kernel)
set_option maxRecDepth 20000 in
theorem gX5_numberOf_X5_worstSet : GoodIn wsX5_numberOf (wsV RX5 215 RX5 yX5_worstSet wsX5_worstSet) := goodIn_app (goodIn_of _ (by decide +kernel)) ggX5_numberOf_X5_worstSet
theorem dX5_numberOf_0 : decode cX5_numberOf 0 = .ok (.iload_n 1, 1) := by decide +kernel
theorem dX5_numberOf_1 : decode cX5_numberOf 1 = .ok (.tableswitch 109 0 8 #[51, 59, 64, 71, 78, 86, 91, 99, 104], 51) := by decide +kernel
theorem dX5_numberOf_52 : decode cX5_numberOf 52 = .ok (.aload_n 0, 1) := by decide +kernel
theorem dX5_numberOf_53 : decode cX5_numberOf 53 = .ok (.getfield 7, 3) := by decide +kernel
theorem dX5_numberOf_56 : decode cX5_numberOf 56 = .ok (.bipush 8, 2) := by decide +kernel
theorem dX5_numberOf_58 : decode cX5_numberOf 58 = .ok (.iaload, 1) := by decide +kernel
theorem dX5_numberOf_59 : decode cX5_numberOf 59 = .ok (.ireturn, 1) := by decide +kernel
theorem dX5_numberOf_60 : decode cX5_numberOf 60 = .ok (.aload_n 0, 1) := by decide +kernel
theorem dX5_numberOf_61 : decode cX5_numberOf 61 = .ok (.invokevirtual 208, 3) := by decide +kernel
theorem dX5_numberOf_64 : decode cX5_numberOf 64 = .ok (.ireturn, 1) := by decide +kernel
theorem dX5_numberOf_65 : decode cX5_numberOf 65 = .ok (.aload_n 0, 1) := by decide +kernel
theorem dX5_numberOf_66 : decode cX5_numberOf 66 = .ok (.getfield 7, 3) := by decide +kernel
theorem dX5_numberOf_69 : decode cX5_numberOf 69 = .ok (.iconst 4, 1) := by decide +kernel
theorem dX5_numberOf_70 : decode cX5_numberOf 70 = .ok (.iaload, 1) := by decide +kernel
theorem dX5_numberOf_71 : decode cX5_numberOf 71 = .ok (.ireturn, 1) := by decide +kernel
theorem dX5_numberOf_72 : decode cX5_numberOf 72 = .ok (.aload_n 0, 1) := by decide +kernel
theorem dX5_numberOf_73 : decode cX5_numberOf 73 = .ok (.getfield 7, 3) := by decide +kernel
theorem dX5_numberOf_76 : decode cX5_numberOf 76 = .ok (.iconst 5, 1) := by decide +kernel
theorem dX5_numberOf_77 : decode cX5_numberOf 77 = .ok (.iaload, 1) := by decide +kernel
theorem dX5_numberOf_78 : decode cX5_numberOf 78 = .ok (.ireturn, 1) := by decide +kernel
theorem dX5_numberOf_79 : decode cX5_numberOf 79 = .ok (.aload_n 0, 1) := by decide +kernel
theorem dX5_numberOf_80 : decode cX5_numberOf 80 = .ok (.getfield 7, 3) := by decide +kernel
theorem dX5_numberOf_83 : decode cX5_numberOf 83 = .ok (.bipush 6, 2) := by decide +kernel
theorem dX5_numberOf_85 : decode cX5_numberOf 85 = .ok (.iaload, 1) := by decide +kernel
theorem dX5_numberOf_86 : decode cX5_numberOf 86 = .ok (.ireturn, 1) := by decide +kernel
theorem dX5_numberOf_87 : decode cX5_numberOf 87 = .ok (.aload_n 0, 1) := by decide +kernel
theorem dX5_numberOf_88 : decode cX5_numberOf 88 = .ok (.invokevirtual 212, 3) := by decide +kernel
theorem dX5_numberOf_91 : decode cX5_numberOf 91 = .ok (.ireturn, 1) := by decide +kernel
theorem dX5_numberOf_92 : decode cX5_numberOf 92 = .ok (.aload_n 0, 1) := by decide +kernel
theorem dX5_numberOf_93 : decode cX5_numberOf 93 = .ok (.getfield 7, 3) := by decide +kernel
theorem dX5_numberOf_96 : decode cX5_numberOf 96 = .ok (.bipush 7, 2) := by decide +kernel
theorem dX5_numberOf_98 : decode cX5_numberOf 98 = .ok (.iaload, 1) := by decide +kernel
theorem dX5_numberOf_99 : decode cX5_numberOf 99 = .ok (.ireturn, 1) := by decide +kernel
theorem dX5_numberOf_100 : decode cX5_numberOf 100 = .ok (.aload_n 0, 1) := by decide +kernel
theorem dX5_numberOf_101 : decode cX5_numberOf 101 = .ok (.invokevirtual 215, 3) := by decide +kernel
theorem dX5_numberOf_104 : decode cX5_numberOf 104 = .ok (.ireturn, 1) := by decide +kernel
theorem dX5_numberOf_105 : decode cX5_numberOf 105 = .ok (.aload_n 0, 1) := by decide +kernel
theorem dX5_numberOf_106 : decode cX5_numberOf 106 = .ok (.getfield 47, 3) := by decide +kernel
theorem dX5_numberOf_109 : decode cX5_numberOf 109 = .ok (.ireturn, 1) := by decide +kernel
theorem dX5_numberOf_110 : decode cX5_numberOf 110 = .ok (.aload_n 0, 1) := by decide +kernel
theorem dX5_numberOf_111 : decode cX5_numberOf 111 = .ok (.getfield 147, 3) := by decide +kernel
theorem dX5_numberOf_114 : decode cX5_numberOf 114 = .ok (.ireturn, 1) := by decide +kernel
set_option maxRecDepth 20000 in
theorem ggX5_count_X5_in : GoodIn wsX5_count wsX5_in := goodIn_r _ [5] (by decide +kernel) (by decide +kernel)
set_option maxRecDepth 20000 in
theorem gX5_count_X5_in : GoodIn wsX5_count (va_wsS RX5 42 yX5_in wsX5_in) := goodIn_app (goodIn_of _ (by decide +kernel)) ggX5_count_X5_in
set_option maxRecDepth 20000 in
theorem ggX5_count_X5_numberOf : GoodIn wsX5_count wsX5_numberOf := goodIn_r _ [9, 10, 11, 12, 13, 14, 15, 4, 16, 17, 18, 19, 20, 21, 22, 23, 24, 25, 26, 27, 28, 29, 30, 31, 32, 33, 34, 35, 36, 37, 38, 39, 40, 41, 42, 43, 44, 45, 46, 47, 48, 49, 50, 51, 52, 53, 58, 59, 60, 61, 62, 63, 64, 65, 66, 67, 68, 69, 70, 71, 72, 73, 74, 75] (by decide +kernel) (by decide +kernel)
set_option maxRecDepth 20000 in
theorem gX5_count_X5_numberOf : GoodIn wsX5_count (wsV RX5 218 RX5 yX5_numberOf wsX5_numberOf) := goodIn_app (goodIn_of _ (by decide +kernel)) ggX5_count_X5_numberOf
set_option maxRecDepth 20000 in
theorem ggX5_count_X5_fails : GoodIn wsX5_count wsX5_fails := goodIn_r _ [57, 1, 58, 59, 60, 61, 62, 63, 64, 65, 66, 67, 68, 69, 70, 71, 72, 73, 74, 75] (by decide +kernel) (by decide +kernel)
set_option maxRecDepth 20000 in
theorem gX5_count_X5_fails : GoodIn wsX5_count (wsV RX5 50 RX5 yX5_fails wsX5_fails) := goodIn_app (goodIn_of _ (by decide +kernel)) ggX5_count_X5_fails
theorem dX5_count_0 : decode cX5_count 0 = .ok (.aload_n 0, 1) := by decide +kernel
theorem dX5_count_1 : decode cX5_count 1 = .ok (.iconst 0, 1) := by decide +kernel
theorem dX5_count_2 : decode cX5_count 2 = .ok (.putfield 38, 3) := by decide +kernel
theorem dX5_count_5 : decode cX5_count 5 = .ok (.iload_n 1, 1) := by decide +kernel
theorem dX5_count_6 : decode cX5_count 6 = .ok (.iconst 0, 1) := by decide +kernel
theorem dX5_count_7 : decode cX5_count 7 = .ok (.bipush 9, 2) := by decide +kernel
theorem dX5_count_9 : decode cX5_count 9 = .ok (.invokestatic 42, 3) := by decide +kernel
theorem dX5_count_12 : decode cX5_count 12 = .ok (.ifCond .eq 11, 3) := by decide +kernel
theorem dX5_count_15 : decode cX5_count 15 = .ok (.aload_n 0, 1) := by decide +kernel
theorem dX5_count_16 : decode cX5_count 16 = .ok (.iload_n 1, 1) := by decide +kernel
theorem dX5_count_17 : decode cX5_count 17 = .ok (.invokevirtual 218, 3) := by decide +kernel
theorem dX5_count_20 : decode cX5_count 20 = .ok (.goto 8, 3) := by decide +kernel
theorem dX5_count_23 : decode cX5_count 23 = .ok (.aload_n 0, 1) := by decide +kernel
theorem dX5_count_24 : decode cX5_count 24 = .ok (.iconst 1, 1) := by decide +kernel
theorem dX5_count_25 : decode cX5_count 25 = .ok (.invokevirtual 50, 3) := by decide +kernel
theorem dX5_count_28 : decode cX5_count 28 = .ok (.ireturn, 1) := by decide +kernel
set_option maxRecDepth 20000 in
theorem ggX5_setting_X5_in : GoodIn wsX5_setting wsX5_in := goodIn_r _ [6] (by decide +kernel) (by decide +kernel)
set_option maxRecDepth 20000 in
theorem gX5_setting_X5_in : GoodIn wsX5_setting (va_wsS RX5 42 yX5_in wsX5_in) := goodIn_app (goodIn_of _ (by decide +kernel)) ggX5_setting_X5_in
set_option maxRecDepth 20000 in
theorem ggX5_setting_X5_fails : GoodIn wsX5_setting wsX5_fails := goodIn_r _ [10, 1, 11, 12, 13, 14, 15, 16, 17, 18, 19, 20, 21, 22, 23, 24, 25, 26, 27, 28] (by decide +kernel) (by decide +kernel)
set_option maxRecDepth 20000 in
theorem gX5_setting_X5_fails : GoodIn wsX5_setting (wsV RX5 50 RX5 yX5_fails wsX5_fails) := goodIn_app (goodIn_of _ (by decide +kernel)) ggX5_setting_X5_fails
theorem dX5_setting_0 : decode cX5_setting 0 = .ok (.aload_n 0, 1) := by decide +kernel
theorem dX5_setting_1 : decode cX5_setting 1 = .ok (.iconst 0, 1) := by decide +kernel
theorem dX5_setting_2 : decode cX5_setting 2 = .ok (.putfield 38, 3) := by decide +kernel
theorem dX5_setting_5 : decode cX5_setting 5 = .ok (.iload_n 1, 1) := by decide +kernel
theorem dX5_setting_6 : decode cX5_setting 6 = .ok (.iconst 0, 1) := by decide +kernel
theorem dX5_setting_7 : decode cX5_setting 7 = .ok (.iconst 3, 1) := by decide +kernel
theorem dX5_setting_8 : decode cX5_setting 8 = .ok (.invokestatic 42, 3) := by decide +kernel
theorem dX5_setting_11 : decode cX5_setting 11 = .ok (.ifCond .eq 12, 3) := by decide +kernel
theorem dX5_setting_14 : decode cX5_setting 14 = .ok (.aload_n 0, 1) := by decide +kernel
theorem dX5_setting_15 : decode cX5_setting 15 = .ok (.getfield 7, 3) := by decide +kernel
theorem dX5_setting_18 : decode cX5_setting 18 = .ok (.iload_n 1, 1) := by decide +kernel
theorem dX5_setting_19 : decode cX5_setting 19 = .ok (.iaload, 1) := by decide +kernel
theorem dX5_setting_20 : decode cX5_setting 20 = .ok (.goto 8, 3) := by decide +kernel
theorem dX5_setting_23 : decode cX5_setting 23 = .ok (.aload_n 0, 1) := by decide +kernel
theorem dX5_setting_24 : decode cX5_setting 24 = .ok (.iconst 1, 1) := by decide +kernel
theorem dX5_setting_25 : decode cX5_setting 25 = .ok (.invokevirtual 50, 3) := by decide +kernel
theorem dX5_setting_28 : decode cX5_setting 28 = .ok (.ireturn, 1) := by decide +kernel
set_option maxRecDepth 20000 in
theorem ggX5_refusal_X5_isStack : GoodIn wsX5_refusal wsX5_isStack := goodIn_r _ [5, 6, 7, 4, 8] (by decide +kernel) (by decide +kernel)
set_option maxRecDepth 20000 in
theorem gX5_refusal_X5_isStack : GoodIn wsX5_refusal (va_wsS RX5 129 yX5_isStack wsX5_isStack) := goodIn_app (goodIn_of _ (by decide +kernel)) ggX5_refusal_X5_isStack
set_option maxRecDepth 20000 in
theorem ggX5_refusal_X5_isBlock : GoodIn wsX5_refusal wsX5_isBlock := goodIn_r _ [12, 13, 6, 7, 4, 8, 45, 46, 47, 48, 49, 50, 51, 52, 53, 54, 55, 56, 57, 58, 59, 60, 61, 62] (by decide +kernel) (by decide +kernel)
set_option maxRecDepth 20000 in
theorem gX5_refusal_X5_isBlock : GoodIn wsX5_refusal (wsV RX5 116 RX5 yX5_isBlock wsX5_isBlock) := goodIn_app (goodIn_of _ (by decide +kernel)) ggX5_refusal_X5_isBlock
set_option maxRecDepth 20000 in
theorem ggX5_refusal_X5_reason : GoodIn wsX5_refusal wsX5_reason := goodIn_r _ [17, 13, 18, 19, 20, 4, 21, 22, 23, 24, 25, 26, 27, 28, 29, 30, 31, 32, 33, 34, 35, 36, 37, 38, 39, 40, 45, 46, 47, 48, 49, 50, 51, 52, 53, 54, 55, 56, 57, 58, 59, 60, 61, 62] (by decide +kernel) (by decide +kernel)
set_option maxRecDepth 20000 in
theorem gX5_refusal_X5_reason : GoodIn wsX5_refusal (wsV RX5 91 RX5 yX5_reason wsX5_reason) := goodIn_app (goodIn_of _ (by decide +kernel)) ggX5_refusal_X5_reason
set_option maxRecDepth 20000 in
theorem ggX5_refusal_X5_fails : GoodIn wsX5_refusal wsX5_fails := goodIn_r _ [44, 1, 45, 46, 47, 48, 49, 50, 51, 52, 53, 54, 55, 56, 57, 58, 59, 60, 61, 62] (by decide +kernel) (by decide +kernel)
set_option maxRecDepth 20000 in
theorem gX5_refusal_X5_fails : GoodIn wsX5_refusal (wsV RX5 50 RX5 yX5_fails wsX5_fails) := goodIn_app (goodIn_of _ (by decide +kernel)) ggX5_refusal_X5_fails
theorem dX5_refusal_0 : decode cX5_refusal 0 = .ok (.aload_n 0, 1) := by decide +kernel
theorem dX5_refusal_1 : decode cX5_refusal 1 = .ok (.iconst 0, 1) := by decide +kernel
theorem dX5_refusal_2 : decode cX5_refusal 2 = .ok (.putfield 38, 3) := by decide +kernel
theorem dX5_refusal_5 : decode cX5_refusal 5 = .ok (.iload_n 1, 1) := by decide +kernel
theorem dX5_refusal_6 : decode cX5_refusal 6 = .ok (.invokestatic 129, 3) := by decide +kernel
theorem dX5_refusal_9 : decode cX5_refusal 9 = .ok (.ifCond .eq 20, 3) := by decide +kernel
theorem dX5_refusal_12 : decode cX5_refusal 12 = .ok (.aload_n 0, 1) := by decide +kernel
theorem dX5_refusal_13 : decode cX5_refusal 13 = .ok (.iload_n 2, 1) := by decide +kernel
theorem dX5_refusal_14 : decode cX5_refusal 14 = .ok (.invokevirtual 116, 3) := by decide +kernel
theorem dX5_refusal_17 : decode cX5_refusal 17 = .ok (.ifCond .eq 12, 3) := by decide +kernel
theorem dX5_refusal_20 : decode cX5_refusal 20 = .ok (.aload_n 0, 1) := by decide +kernel
theorem dX5_refusal_21 : decode cX5_refusal 21 = .ok (.iload_n 1, 1) := by decide +kernel
theorem dX5_refusal_22 : decode cX5_refusal 22 = .ok (.iload_n 2, 1) := by decide +kernel
theorem dX5_refusal_23 : decode cX5_refusal 23 = .ok (.invokevirtual 91, 3) := by decide +kernel
theorem dX5_refusal_26 : decode cX5_refusal 26 = .ok (.goto 8, 3) := by decide +kernel
theorem dX5_refusal_29 : decode cX5_refusal 29 = .ok (.aload_n 0, 1) := by decide +kernel
theorem dX5_refusal_30 : decode cX5_refusal 30 = .ok (.iconst 1, 1) := by decide +kernel
theorem dX5_refusal_31 : decode cX5_refusal 31 = .ok (.invokevirtual 50, 3) := by decide +kernel
theorem dX5_refusal_34 : decode cX5_refusal 34 = .ok (.ireturn, 1) := by decide +kernel
set_option maxRecDepth 20000 in
theorem ggX5_fewestOf_X5_fewestFor : GoodIn wsX5_fewestOf wsX5_fewestFor := goodIn_r _ [5, 6, 7, 8, 9, 4, 10, 11, 12, 13, 14, 15, 16, 17, 18, 19, 20, 21, 22, 23, 24, 25, 26, 27, 28, 29, 30, 31, 35, 36, 37, 38, 39, 40, 41, 42, 43, 44, 45, 46, 47, 48, 49, 50, 51, 52] (by decide +kernel) (by decide +kernel)
set_option maxRecDepth 20000 in
theorem gX5_fewestOf_X5_fewestFor : GoodIn wsX5_fewestOf (wsV RX5 138 RX5 yX5_fewestFor wsX5_fewestFor) := goodIn_app (goodIn_of _ (by decide +kernel)) ggX5_fewestOf_X5_fewestFor
set_option maxRecDepth 20000 in
theorem ggX5_fewestOf_X5_ones : GoodIn wsX5_fewestOf wsX5_ones := goodIn_r _ [34] (by decide +kernel) (by decide +kernel)
set_option maxRecDepth 20000 in
theorem gX5_fewestOf_X5_ones : GoodIn wsX5_fewestOf (va_wsS RX5 221 yX5_ones wsX5_ones) := goodIn_app (goodIn_of _ (by decide +kernel)) ggX5_fewestOf_X5_ones
theorem dX5_fewestOf_0 : decode cX5_fewestOf 0 = .ok (.aload_n 0, 1) := by decide +kernel
theorem dX5_fewestOf_1 : decode cX5_fewestOf 1 = .ok (.iload_n 1, 1) := by decide +kernel
theorem dX5_fewestOf_2 : decode cX5_fewestOf 2 = .ok (.invokevirtual 138, 3) := by decide +kernel
theorem dX5_fewestOf_5 : decode cX5_fewestOf 5 = .ok (.istore_n 3, 1) := by decide +kernel
theorem dX5_fewestOf_6 : decode cX5_fewestOf 6 = .ok (.iload_n 3, 1) := by decide +kernel
theorem dX5_fewestOf_7 : decode cX5_fewestOf 7 = .ok (.ifCond .ne 7, 3) := by decide +kernel
theorem dX5_fewestOf_10 : decode cX5_fewestOf 10 = .ok (.iconst (-1), 1) := by decide +kernel
theorem dX5_fewestOf_11 : decode cX5_fewestOf 11 = .ok (.goto 15, 3) := by decide +kernel
theorem dX5_fewestOf_14 : decode cX5_fewestOf 14 = .ok (.iload_n 2, 1) := by decide +kernel
theorem dX5_fewestOf_15 : decode cX5_fewestOf 15 = .ok (.ifCond .ne 10, 3) := by decide +kernel
theorem dX5_fewestOf_18 : decode cX5_fewestOf 18 = .ok (.iload_n 3, 1) := by decide +kernel
theorem dX5_fewestOf_19 : decode cX5_fewestOf 19 = .ok (.invokestatic 221, 3) := by decide +kernel
theorem dX5_fewestOf_22 : decode cX5_fewestOf 22 = .ok (.goto 4, 3) := by decide +kernel
theorem dX5_fewestOf_25 : decode cX5_fewestOf 25 = .ok (.iload_n 3, 1) := by decide +kernel
theorem dX5_fewestOf_26 : decode cX5_fewestOf 26 = .ok (.ireturn, 1) := by decide +kernel
set_option maxRecDepth 20000 in
theorem ggX5_fewest_X5_isLength : GoodIn wsX5_fewest wsX5_isLength := goodIn_r _ [5, 6, 7, 8, 4, 9] (by decide +kernel) (by decide +kernel)
set_option maxRecDepth 20000 in
theorem gX5_fewest_X5_isLength : GoodIn wsX5_fewest (va_wsS RX5 141 yX5_isLength wsX5_isLength) := goodIn_app (goodIn_of _ (by decide +kernel)) ggX5_fewest_X5_isLength
set_option maxRecDepth 20000 in
theorem ggX5_fewest_X5_in : GoodIn wsX5_fewest wsX5_in := goodIn_r _ [9] (by decide +kernel) (by decide +kernel)
set_option maxRecDepth 20000 in
theorem gX5_fewest_X5_in : GoodIn wsX5_fewest (va_wsS RX5 42 yX5_in wsX5_in) := goodIn_app (goodIn_of _ (by decide +kernel)) ggX5_fewest_X5_in
set_option maxRecDepth 20000 in
theorem ggX5_fewest_X5_fewestOf : GoodIn wsX5_fewest wsX5_fewestOf := goodIn_r _ [13, 14, 15, 16, 4, 17, 18, 19, 20, 21, 22, 23, 24, 25, 26, 27, 28, 29, 30, 31, 32, 33, 34, 35, 36, 37, 38, 39, 40, 41, 42, 43, 44, 45, 46, 51, 52, 53, 54, 55, 56, 57, 58, 59, 60, 61, 62, 63, 64, 65, 66, 67, 68] (by decide +kernel) (by decide +kernel)
set_option maxRecDepth 20000 in
theorem gX5_fewest_X5_fewestOf : GoodIn wsX5_fewest (wsV RX5 224 RX5 yX5_fewestOf wsX5_fewestOf) := goodIn_app (goodIn_of _ (by decide +kernel)) ggX5_fewest_X5_fewestOf
set_option maxRecDepth 20000 in
theorem ggX5_fewest_X5_fails : GoodIn wsX5_fewest wsX5_fails := goodIn_r _ [50, 1, 51, 52, 53, 54, 55, 56, 57, 58, 59, 60, 61, 62, 63, 64, 65, 66, 67, 68] (by decide +kernel) (by decide +kernel)
set_option maxRecDepth 20000 in
theorem gX5_fewest_X5_fails : GoodIn wsX5_fewest (wsV RX5 50 RX5 yX5_fails wsX5_fails) := goodIn_app (goodIn_of _ (by decide +kernel)) ggX5_fewest_X5_fails
theorem dX5_fewest_0 : decode cX5_fewest 0 = .ok (.aload_n 0, 1) := by decide +kernel
theorem dX5_fewest_1 : decode cX5_fewest 1 = .ok (.iconst 0, 1) := by decide +kernel
theorem dX5_fewest_2 : decode cX5_fewest 2 = .ok (.putfield 38, 3) := by decide +kernel
theorem dX5_fewest_5 : decode cX5_fewest 5 = .ok (.iload_n 1, 1) := by decide +kernel
theorem dX5_fewest_6 : decode cX5_fewest 6 = .ok (.invokestatic 141, 3) := by decide +kernel
theorem dX5_fewest_9 : decode cX5_fewest 9 = .ok (.ifCond .eq 21, 3) := by decide +kernel
theorem dX5_fewest_12 : decode cX5_fewest 12 = .ok (.iload_n 2, 1) := by decide +kernel
theorem dX5_fewest_13 : decode cX5_fewest 13 = .ok (.iconst 0, 1) := by decide +kernel
theorem dX5_fewest_14 : decode cX5_fewest 14 = .ok (.iconst 1, 1) := by decide +kernel
theorem dX5_fewest_15 : decode cX5_fewest 15 = .ok (.invokestatic 42, 3) := by decide +kernel
theorem dX5_fewest_18 : decode cX5_fewest 18 = .ok (.ifCond .eq 12, 3) := by decide +kernel
theorem dX5_fewest_21 : decode cX5_fewest 21 = .ok (.aload_n 0, 1) := by decide +kernel
theorem dX5_fewest_22 : decode cX5_fewest 22 = .ok (.iload_n 1, 1) := by decide +kernel
theorem dX5_fewest_23 : decode cX5_fewest 23 = .ok (.iload_n 2, 1) := by decide +kernel
theorem dX5_fewest_24 : decode cX5_fewest 24 = .ok (.invokevirtual 224, 3) := by decide +kernel
theorem dX5_fewest_27 : decode cX5_fewest 27 = .ok (.goto 8, 3) := by decide +kernel
theorem dX5_fewest_30 : decode cX5_fewest 30 = .ok (.aload_n 0, 1) := by decide +kernel
theorem dX5_fewest_31 : decode cX5_fewest 31 = .ok (.iconst 1, 1) := by decide +kernel
theorem dX5_fewest_32 : decode cX5_fewest 32 = .ok (.invokevirtual 50, 3) := by decide +kernel
theorem dX5_fewest_35 : decode cX5_fewest 35 = .ok (.ireturn, 1) := by decide +kernel
set_option maxRecDepth 20000 in
theorem ggX5_nextOld_X5_of : GoodIn wsX5_nextOld wsX5_of := goodIn_r _ [8, 2, 13, 14, 15, 16, 17, 18, 19, 20, 21, 22, 23, 24, 25, 26, 27, 28, 29, 30] (by decide +kernel) (by decide +kernel)
set_option maxRecDepth 20000 in
theorem gX5_nextOld_X5_of : GoodIn wsX5_nextOld (wsV RX5 57 RX5 yX5_of wsX5_of) := goodIn_app (goodIn_of _ (by decide +kernel)) ggX5_nextOld_X5_of
set_option maxRecDepth 20000 in
theorem ggX5_nextOld_X5_isFree : GoodIn wsX5_nextOld wsX5_isFree := goodIn_r _ [12, 4, 5, 6, 7, 8, 2, 13, 14, 15, 16, 17, 18, 19, 20, 21, 22, 23, 24, 25, 26, 27, 28, 29, 30] (by decide +kernel) (by decide +kernel)
set_option maxRecDepth 20000 in
theorem gX5_nextOld_X5_isFree : GoodIn wsX5_nextOld (wsV RX5 78 RX5 yX5_isFree wsX5_isFree) := goodIn_app (goodIn_of _ (by decide +kernel)) ggX5_nextOld_X5_isFree
theorem dX5_nextOld_0 : decode cX5_nextOld 0 = .ok (.bipush 10, 2) := by decide +kernel
theorem dX5_nextOld_2 : decode cX5_nextOld 2 = .ok (.istore_n 1, 1) := by decide +kernel
theorem dX5_nextOld_3 : decode cX5_nextOld 3 = .ok (.aload_n 0, 1) := by decide +kernel
theorem dX5_nextOld_4 : decode cX5_nextOld 4 = .ok (.getfield 227, 3) := by decide +kernel
theorem dX5_nextOld_7 : decode cX5_nextOld 7 = .ok (.iload_n 1, 1) := by decide +kernel
theorem dX5_nextOld_8 : decode cX5_nextOld 8 = .ok (.irem, 1) := by decide +kernel
theorem dX5_nextOld_9 : decode cX5_nextOld 9 = .ok (.ifCond .ne 11, 3) := by decide +kernel
theorem dX5_nextOld_12 : decode cX5_nextOld 12 = .ok (.iload_n 1, 1) := by decide +kernel
theorem dX5_nextOld_13 : decode cX5_nextOld 13 = .ok (.bipush 10, 2) := by decide +kernel
theorem dX5_nextOld_15 : decode cX5_nextOld 15 = .ok (.imul, 1) := by decide +kernel
theorem dX5_nextOld_16 : decode cX5_nextOld 16 = .ok (.istore_n 1, 1) := by decide +kernel
theorem dX5_nextOld_17 : decode cX5_nextOld 17 = .ok (.goto (-14), 3) := by decide +kernel
theorem dX5_nextOld_20 : decode cX5_nextOld 20 = .ok (.iconst (-1), 1) := by decide +kernel
theorem dX5_nextOld_21 : decode cX5_nextOld 21 = .ok (.istore_n 2, 1) := by decide +kernel
theorem dX5_nextOld_22 : decode cX5_nextOld 22 = .ok (.iconst 0, 1) := by decide +kernel
theorem dX5_nextOld_23 : decode cX5_nextOld 23 = .ok (.istore_n 3, 1) := by decide +kernel
theorem dX5_nextOld_24 : decode cX5_nextOld 24 = .ok (.iload_n 3, 1) := by decide +kernel
theorem dX5_nextOld_25 : decode cX5_nextOld 25 = .ok (.aload_n 0, 1) := by decide +kernel
theorem dX5_nextOld_26 : decode cX5_nextOld 26 = .ok (.getfield 7, 3) := by decide +kernel
theorem dX5_nextOld_29 : decode cX5_nextOld 29 = .ok (.bipush 8, 2) := by decide +kernel
theorem dX5_nextOld_31 : decode cX5_nextOld 31 = .ok (.iaload, 1) := by decide +kernel
theorem dX5_nextOld_32 : decode cX5_nextOld 32 = .ok (.if_icmp .ge 91, 3) := by decide +kernel
theorem dX5_nextOld_35 : decode cX5_nextOld 35 = .ok (.aload_n 0, 1) := by decide +kernel
theorem dX5_nextOld_36 : decode cX5_nextOld 36 = .ok (.iload_n 3, 1) := by decide +kernel
theorem dX5_nextOld_37 : decode cX5_nextOld 37 = .ok (.iconst 0, 1) := by decide +kernel
theorem dX5_nextOld_38 : decode cX5_nextOld 38 = .ok (.invokevirtual 57, 3) := by decide +kernel
theorem dX5_nextOld_41 : decode cX5_nextOld 41 = .ok (.istore 4, 2) := by decide +kernel
theorem dX5_nextOld_43 : decode cX5_nextOld 43 = .ok (.aload_n 0, 1) := by decide +kernel
theorem dX5_nextOld_44 : decode cX5_nextOld 44 = .ok (.iload_n 3, 1) := by decide +kernel
theorem dX5_nextOld_45 : decode cX5_nextOld 45 = .ok (.invokevirtual 78, 3) := by decide +kernel
theorem dX5_nextOld_48 : decode cX5_nextOld 48 = .ok (.ifCond .eq 39, 3) := by decide +kernel
theorem dX5_nextOld_51 : decode cX5_nextOld 51 = .ok (.aload_n 0, 1) := by decide +kernel
theorem dX5_nextOld_52 : decode cX5_nextOld 52 = .ok (.getfield 230, 3) := by decide +kernel
theorem dX5_nextOld_55 : decode cX5_nextOld 55 = .ok (.iload_n 3, 1) := by decide +kernel
theorem dX5_nextOld_56 : decode cX5_nextOld 56 = .ok (.ishr, 1) := by decide +kernel
theorem dX5_nextOld_57 : decode cX5_nextOld 57 = .ok (.iconst 1, 1) := by decide +kernel
theorem dX5_nextOld_58 : decode cX5_nextOld 58 = .ok (.iand, 1) := by decide +kernel
theorem dX5_nextOld_59 : decode cX5_nextOld 59 = .ok (.ifCond .ne 28, 3) := by decide +kernel
theorem dX5_nextOld_62 : decode cX5_nextOld 62 = .ok (.iload 4, 2) := by decide +kernel
theorem dX5_nextOld_64 : decode cX5_nextOld 64 = .ok (.aload_n 0, 1) := by decide +kernel
theorem dX5_nextOld_65 : decode cX5_nextOld 65 = .ok (.getfield 227, 3) := by decide +kernel
theorem dX5_nextOld_68 : decode cX5_nextOld 68 = .ok (.if_icmp .gt 19, 3) := by decide +kernel
theorem dX5_nextOld_71 : decode cX5_nextOld 71 = .ok (.aload_n 0, 1) := by decide +kernel
theorem dX5_nextOld_72 : decode cX5_nextOld 72 = .ok (.getfield 227, 3) := by decide +kernel
theorem dX5_nextOld_75 : decode cX5_nextOld 75 = .ok (.iload 4, 2) := by decide +kernel
theorem dX5_nextOld_77 : decode cX5_nextOld 77 = .ok (.isub, 1) := by decide +kernel
theorem dX5_nextOld_78 : decode cX5_nextOld 78 = .ok (.iload_n 1, 1) := by decide +kernel
theorem dX5_nextOld_79 : decode cX5_nextOld 79 = .ok (.irem, 1) := by decide +kernel
theorem dX5_nextOld_80 : decode cX5_nextOld 80 = .ok (.ifCond .ne 7, 3) := by decide +kernel
theorem dX5_nextOld_83 : decode cX5_nextOld 83 = .ok (.iconst 1, 1) := by decide +kernel
theorem dX5_nextOld_84 : decode cX5_nextOld 84 = .ok (.goto 4, 3) := by decide +kernel
theorem dX5_nextOld_87 : decode cX5_nextOld 87 = .ok (.iconst 0, 1) := by decide +kernel
theorem dX5_nextOld_88 : decode cX5_nextOld 88 = .ok (.istore 5, 2) := by decide +kernel
theorem dX5_nextOld_90 : decode cX5_nextOld 90 = .ok (.iload 5, 2) := by decide +kernel
theorem dX5_nextOld_92 : decode cX5_nextOld 92 = .ok (.ifCond .eq 23, 3) := by decide +kernel
theorem dX5_nextOld_95 : decode cX5_nextOld 95 = .ok (.iload_n 2, 1) := by decide +kernel
theorem dX5_nextOld_96 : decode cX5_nextOld 96 = .ok (.iconst (-1), 1) := by decide +kernel
theorem dX5_nextOld_97 : decode cX5_nextOld 97 = .ok (.if_icmp .eq 14, 3) := by decide +kernel
theorem dX5_nextOld_100 : decode cX5_nextOld 100 = .ok (.iload 4, 2) := by decide +kernel
theorem dX5_nextOld_102 : decode cX5_nextOld 102 = .ok (.aload_n 0, 1) := by decide +kernel
theorem dX5_nextOld_103 : decode cX5_nextOld 103 = .ok (.iload_n 2, 1) := by decide +kernel
theorem dX5_nextOld_104 : decode cX5_nextOld 104 = .ok (.iconst 0, 1) := by decide +kernel
theorem dX5_nextOld_105 : decode cX5_nextOld 105 = .ok (.invokevirtual 57, 3) := by decide +kernel
theorem dX5_nextOld_108 : decode cX5_nextOld 108 = .ok (.if_icmp .le 7, 3) := by decide +kernel
theorem dX5_nextOld_111 : decode cX5_nextOld 111 = .ok (.iload_n 3, 1) := by decide +kernel
theorem dX5_nextOld_112 : decode cX5_nextOld 112 = .ok (.goto 4, 3) := by decide +kernel
theorem dX5_nextOld_115 : decode cX5_nextOld 115 = .ok (.iload_n 2, 1) := by decide +kernel
theorem dX5_nextOld_116 : decode cX5_nextOld 116 = .ok (.istore_n 2, 1) := by decide +kernel
theorem dX5_nextOld_117 : decode cX5_nextOld 117 = .ok (.iinc 3 1, 3) := by decide +kernel
theorem dX5_nextOld_120 : decode cX5_nextOld 120 = .ok (.goto (-96), 3) := by decide +kernel
theorem dX5_nextOld_123 : decode cX5_nextOld 123 = .ok (.iload_n 2, 1) := by decide +kernel
theorem dX5_nextOld_124 : decode cX5_nextOld 124 = .ok (.ireturn, 1) := by decide +kernel
set_option maxRecDepth 20000 in
theorem ggX5_oldOf_X5_nextOld : GoodIn wsX5_oldOf wsX5_nextOld := goodIn_r _ [7, 2, 8, 1, 9, 10, 11, 6, 12, 13, 14, 15, 16, 17, 18, 19, 20, 21, 22, 23, 24, 25, 26, 27, 28, 29, 30, 31, 32, 33, 34] (by decide +kernel) (by decide +kernel)
set_option maxRecDepth 20000 in
theorem gX5_oldOf_X5_nextOld : GoodIn wsX5_oldOf (wsV RX5 233 RX5 yX5_nextOld wsX5_nextOld) := goodIn_app (goodIn_of _ (by decide +kernel)) ggX5_oldOf_X5_nextOld
set_option maxRecDepth 20000 in
theorem ggX5_oldOf_X5_of : GoodIn wsX5_oldOf wsX5_of := goodIn_r _ [12, 8, 17, 18, 19, 20, 21, 22, 23, 24, 25, 26, 27, 28, 29, 30, 31, 32, 33, 34] (by decide +kernel) (by decide +kernel)
set_option maxRecDepth 20000 in
theorem gX5_oldOf_X5_of : GoodIn wsX5_oldOf (wsV RX5 57 RX5 yX5_of wsX5_of) := goodIn_app (goodIn_of _ (by decide +kernel)) ggX5_oldOf_X5_of
theorem dX5_oldOf_0 : decode cX5_oldOf 0 = .ok (.aload_n 0, 1) := by decide +kernel
theorem dX5_oldOf_1 : decode cX5_oldOf 1 = .ok (.iconst 0, 1) := by decide +kernel
theorem dX5_oldOf_2 : decode cX5_oldOf 2 = .ok (.putfield 230, 3) := by decide +kernel
theorem dX5_oldOf_5 : decode cX5_oldOf 5 = .ok (.aload_n 0, 1) := by decide +kernel
theorem dX5_oldOf_6 : decode cX5_oldOf 6 = .ok (.iload_n 1, 1) := by decide +kernel
theorem dX5_oldOf_7 : decode cX5_oldOf 7 = .ok (.putfield 227, 3) := by decide +kernel
theorem dX5_oldOf_10 : decode cX5_oldOf 10 = .ok (.iconst 0, 1) := by decide +kernel
theorem dX5_oldOf_11 : decode cX5_oldOf 11 = .ok (.istore_n 3, 1) := by decide +kernel
theorem dX5_oldOf_12 : decode cX5_oldOf 12 = .ok (.iconst 1, 1) := by decide +kernel
theorem dX5_oldOf_13 : decode cX5_oldOf 13 = .ok (.istore 4, 2) := by decide +kernel
theorem dX5_oldOf_15 : decode cX5_oldOf 15 = .ok (.aload_n 0, 1) := by decide +kernel
theorem dX5_oldOf_16 : decode cX5_oldOf 16 = .ok (.getfield 227, 3) := by decide +kernel
theorem dX5_oldOf_19 : decode cX5_oldOf 19 = .ok (.ifCond .le 77, 3) := by decide +kernel
theorem dX5_oldOf_22 : decode cX5_oldOf 22 = .ok (.iload 4, 2) := by decide +kernel
theorem dX5_oldOf_24 : decode cX5_oldOf 24 = .ok (.ifCond .eq 72, 3) := by decide +kernel
theorem dX5_oldOf_27 : decode cX5_oldOf 27 = .ok (.iload_n 3, 1) := by decide +kernel
theorem dX5_oldOf_28 : decode cX5_oldOf 28 = .ok (.bipush 6, 2) := by decide +kernel
theorem dX5_oldOf_30 : decode cX5_oldOf 30 = .ok (.if_icmp .ge 10, 3) := by decide +kernel
theorem dX5_oldOf_33 : decode cX5_oldOf 33 = .ok (.aload_n 0, 1) := by decide +kernel
theorem dX5_oldOf_34 : decode cX5_oldOf 34 = .ok (.invokevirtual 233, 3) := by decide +kernel
theorem dX5_oldOf_37 : decode cX5_oldOf 37 = .ok (.goto 4, 3) := by decide +kernel
theorem dX5_oldOf_40 : decode cX5_oldOf 40 = .ok (.iconst (-1), 1) := by decide +kernel
theorem dX5_oldOf_41 : decode cX5_oldOf 41 = .ok (.istore 5, 2) := by decide +kernel
theorem dX5_oldOf_43 : decode cX5_oldOf 43 = .ok (.iload 5, 2) := by decide +kernel
theorem dX5_oldOf_45 : decode cX5_oldOf 45 = .ok (.iconst (-1), 1) := by decide +kernel
theorem dX5_oldOf_46 : decode cX5_oldOf 46 = .ok (.if_icmp .eq 7, 3) := by decide +kernel
theorem dX5_oldOf_49 : decode cX5_oldOf 49 = .ok (.iconst 1, 1) := by decide +kernel
theorem dX5_oldOf_50 : decode cX5_oldOf 50 = .ok (.goto 4, 3) := by decide +kernel
theorem dX5_oldOf_53 : decode cX5_oldOf 53 = .ok (.iconst 0, 1) := by decide +kernel
theorem dX5_oldOf_54 : decode cX5_oldOf 54 = .ok (.istore 4, 2) := by decide +kernel
theorem dX5_oldOf_56 : decode cX5_oldOf 56 = .ok (.iload 4, 2) := by decide +kernel
theorem dX5_oldOf_58 : decode cX5_oldOf 58 = .ok (.ifCond .eq 35, 3) := by decide +kernel
theorem dX5_oldOf_61 : decode cX5_oldOf 61 = .ok (.aload_n 0, 1) := by decide +kernel
theorem dX5_oldOf_62 : decode cX5_oldOf 62 = .ok (.dup, 1) := by decide +kernel
theorem dX5_oldOf_63 : decode cX5_oldOf 63 = .ok (.getfield 230, 3) := by decide +kernel
theorem dX5_oldOf_66 : decode cX5_oldOf 66 = .ok (.iconst 1, 1) := by decide +kernel
theorem dX5_oldOf_67 : decode cX5_oldOf 67 = .ok (.iload 5, 2) := by decide +kernel
theorem dX5_oldOf_69 : decode cX5_oldOf 69 = .ok (.ishl, 1) := by decide +kernel
theorem dX5_oldOf_70 : decode cX5_oldOf 70 = .ok (.ior, 1) := by decide +kernel
theorem dX5_oldOf_71 : decode cX5_oldOf 71 = .ok (.putfield 230, 3) := by decide +kernel
theorem dX5_oldOf_74 : decode cX5_oldOf 74 = .ok (.aload_n 0, 1) := by decide +kernel
theorem dX5_oldOf_75 : decode cX5_oldOf 75 = .ok (.dup, 1) := by decide +kernel
theorem dX5_oldOf_76 : decode cX5_oldOf 76 = .ok (.getfield 227, 3) := by decide +kernel
theorem dX5_oldOf_79 : decode cX5_oldOf 79 = .ok (.aload_n 0, 1) := by decide +kernel
theorem dX5_oldOf_80 : decode cX5_oldOf 80 = .ok (.iload 5, 2) := by decide +kernel
theorem dX5_oldOf_82 : decode cX5_oldOf 82 = .ok (.iconst 0, 1) := by decide +kernel
theorem dX5_oldOf_83 : decode cX5_oldOf 83 = .ok (.invokevirtual 57, 3) := by decide +kernel
theorem dX5_oldOf_86 : decode cX5_oldOf 86 = .ok (.isub, 1) := by decide +kernel
theorem dX5_oldOf_87 : decode cX5_oldOf 87 = .ok (.putfield 227, 3) := by decide +kernel
theorem dX5_oldOf_90 : decode cX5_oldOf 90 = .ok (.iinc 3 1, 3) := by decide +kernel
theorem dX5_oldOf_93 : decode cX5_oldOf 93 = .ok (.goto (-78), 3) := by decide +kernel
theorem dX5_oldOf_96 : decode cX5_oldOf 96 = .ok (.iload_n 2, 1) := by decide +kernel
theorem dX5_oldOf_97 : decode cX5_oldOf 97 = .ok (.iconst 2, 1) := by decide +kernel
theorem dX5_oldOf_98 : decode cX5_oldOf 98 = .ok (.if_icmp .ne 10, 3) := by decide +kernel
theorem dX5_oldOf_101 : decode cX5_oldOf 101 = .ok (.aload_n 0, 1) := by decide +kernel
theorem dX5_oldOf_102 : decode cX5_oldOf 102 = .ok (.getfield 227, 3) := by decide +kernel
theorem dX5_oldOf_105 : decode cX5_oldOf 105 = .ok (.goto 26, 3) := by decide +kernel
theorem dX5_oldOf_108 : decode cX5_oldOf 108 = .ok (.aload_n 0, 1) := by decide +kernel
theorem dX5_oldOf_109 : decode cX5_oldOf 109 = .ok (.getfield 227, 3) := by decide +kernel
theorem dX5_oldOf_112 : decode cX5_oldOf 112 = .ok (.ifCond .le 7, 3) := by decide +kernel
theorem dX5_oldOf_115 : decode cX5_oldOf 115 = .ok (.iconst (-1), 1) := by decide +kernel
theorem dX5_oldOf_116 : decode cX5_oldOf 116 = .ok (.goto 15, 3) := by decide +kernel
theorem dX5_oldOf_119 : decode cX5_oldOf 119 = .ok (.iload_n 2, 1) := by decide +kernel
theorem dX5_oldOf_120 : decode cX5_oldOf 120 = .ok (.ifCond .ne 7, 3) := by decide +kernel
theorem dX5_oldOf_123 : decode cX5_oldOf 123 = .ok (.iload_n 3, 1) := by decide +kernel
theorem dX5_oldOf_124 : decode cX5_oldOf 124 = .ok (.goto 7, 3) := by decide +kernel
theorem dX5_oldOf_127 : decode cX5_oldOf 127 = .ok (.aload_n 0, 1) := by decide +kernel
theorem dX5_oldOf_128 : decode cX5_oldOf 128 = .ok (.getfield 230, 3) := by decide +kernel
theorem dX5_oldOf_131 : decode cX5_oldOf 131 = .ok (.ireturn, 1) := by decide +kernel
set_option maxRecDepth 20000 in
theorem ggX5_oldWay_X5_isLength : GoodIn wsX5_oldWay wsX5_isLength := goodIn_r _ [5, 6, 7, 8, 4, 9] (by decide +kernel) (by decide +kernel)
set_option maxRecDepth 20000 in
theorem gX5_oldWay_X5_isLength : GoodIn wsX5_oldWay (va_wsS RX5 141 yX5_isLength wsX5_isLength) := goodIn_app (goodIn_of _ (by decide +kernel)) ggX5_oldWay_X5_isLength
set_option maxRecDepth 20000 in
theorem ggX5_oldWay_X5_in : GoodIn wsX5_oldWay wsX5_in := goodIn_r _ [9] (by decide +kernel) (by decide +kernel)
set_option maxRecDepth 20000 in
theorem gX5_oldWay_X5_in : GoodIn wsX5_oldWay (va_wsS RX5 42 yX5_in wsX5_in) := goodIn_app (goodIn_of _ (by decide +kernel)) ggX5_oldWay_X5_in
set_option maxRecDepth 20000 in
theorem ggX5_oldWay_X5_oldOf : GoodIn wsX5_oldWay wsX5_oldOf := goodIn_r _ [13, 14, 15, 16, 17, 18, 4, 19, 20, 21, 22, 23, 24, 25, 26, 27, 28, 33, 34, 35, 36, 37, 38, 39, 40, 41, 42, 43, 44, 45, 46, 47, 48, 49, 50] (by decide +kernel) (by decide +kernel)
set_option maxRecDepth 20000 in
theorem gX5_oldWay_X5_oldOf : GoodIn wsX5_oldWay (wsV RX5 236 RX5 yX5_oldOf wsX5_oldOf) := goodIn_app (goodIn_of _ (by decide +kernel)) ggX5_oldWay_X5_oldOf
set_option maxRecDepth 20000 in
theorem ggX5_oldWay_X5_fails : GoodIn wsX5_oldWay wsX5_fails := goodIn_r _ [32, 1, 33, 34, 35, 36, 37, 38, 39, 40, 41, 42, 43, 44, 45, 46, 47, 48, 49, 50] (by decide +kernel) (by decide +kernel)
set_option maxRecDepth 20000 in
theorem gX5_oldWay_X5_fails : GoodIn wsX5_oldWay (wsV RX5 50 RX5 yX5_fails wsX5_fails) := goodIn_app (goodIn_of _ (by decide +kernel)) ggX5_oldWay_X5_fails
theorem dX5_oldWay_0 : decode cX5_oldWay 0 = .ok (.aload_n 0, 1) := by decide +kernel
theorem dX5_oldWay_1 : decode cX5_oldWay 1 = .ok (.iconst 0, 1) := by decide +kernel
theorem dX5_oldWay_2 : decode cX5_oldWay 2 = .ok (.putfield 38, 3) := by decide +kernel
theorem dX5_oldWay_5 : decode cX5_oldWay 5 = .ok (.iload_n 1, 1) := by decide +kernel
theorem dX5_oldWay_6 : decode cX5_oldWay 6 = .ok (.invokestatic 141, 3) := by decide +kernel
theorem dX5_oldWay_9 : decode cX5_oldWay 9 = .ok (.ifCond .eq 21, 3) := by decide +kernel
theorem dX5_oldWay_12 : decode cX5_oldWay 12 = .ok (.iload_n 2, 1) := by decide +kernel
theorem dX5_oldWay_13 : decode cX5_oldWay 13 = .ok (.iconst 0, 1) := by decide +kernel
theorem dX5_oldWay_14 : decode cX5_oldWay 14 = .ok (.iconst 2, 1) := by decide +kernel
theorem dX5_oldWay_15 : decode cX5_oldWay 15 = .ok (.invokestatic 42, 3) := by decide +kernel
theorem dX5_oldWay_18 : decode cX5_oldWay 18 = .ok (.ifCond .eq 12, 3) := by decide +kernel
