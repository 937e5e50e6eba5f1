set_option maxRecDepth 20000 in
theorem ggX0_fewestFor_X3_blocksIn : GoodIn wsX0_fewestFor wsX3_blocksIn := goodIn_r _ [6, 7, 8, 14, 15, 16, 17, 18, 19, 20, 21, 22, 23, 24, 25, 26] (by decide +kernel) (by decide +kernel)
set_option maxRecDepth 20000 in
theorem gX0_fewestFor_X3_blocksIn : GoodIn wsX0_fewestFor (wsV RX0 9 RX3 yX3_blocksIn wsX3_blocksIn) := goodIn_app (goodIn_of _ (by decide +kernel)) ggX0_fewestFor_X3_blocksIn
set_option maxRecDepth 20000 in
theorem ggX0_fewestFor_X0_leastSet : GoodIn wsX0_fewestFor wsX0_leastSet := goodIn_r _ [12, 13, 9, 10, 11] (by decide +kernel) (by decide +kernel)
set_option maxRecDepth 20000 in
theorem gX0_fewestFor_X0_leastSet : GoodIn wsX0_fewestFor (va_wsS RX0 19 yX0_leastSet wsX0_leastSet) := goodIn_app (goodIn_of _ (by decide +kernel)) ggX0_fewestFor_X0_leastSet
theorem dX0_fewestFor_0 : decode cX0_fewestFor 0 = .ok (.aload_n 0, 1) := by decide +kernel
theorem dX0_fewestFor_1 : decode cX0_fewestFor 1 = .ok (.iconst (-1), 1) := by decide +kernel
theorem dX0_fewestFor_2 : decode cX0_fewestFor 2 = .ok (.invokevirtual 9, 3) := by decide +kernel
theorem dX0_fewestFor_5 : decode cX0_fewestFor 5 = .ok (.istore_n 2, 1) := by decide +kernel
theorem dX0_fewestFor_6 : decode cX0_fewestFor 6 = .ok (.iconst 1, 1) := by decide +kernel
theorem dX0_fewestFor_7 : decode cX0_fewestFor 7 = .ok (.istore_n 3, 1) := by decide +kernel
theorem dX0_fewestFor_8 : decode cX0_fewestFor 8 = .ok (.iload_n 3, 1) := by decide +kernel
theorem dX0_fewestFor_9 : decode cX0_fewestFor 9 = .ok (.bipush 6, 2) := by decide +kernel
theorem dX0_fewestFor_11 : decode cX0_fewestFor 11 = .ok (.if_icmp .gt 31, 3) := by decide +kernel
theorem dX0_fewestFor_14 : decode cX0_fewestFor 14 = .ok (.aload_n 0, 1) := by decide +kernel
theorem dX0_fewestFor_15 : decode cX0_fewestFor 15 = .ok (.getfield 15, 3) := by decide +kernel
theorem dX0_fewestFor_18 : decode cX0_fewestFor 18 = .ok (.iload_n 2, 1) := by decide +kernel
theorem dX0_fewestFor_19 : decode cX0_fewestFor 19 = .ok (.bipush 20, 2) := by decide +kernel
theorem dX0_fewestFor_21 : decode cX0_fewestFor 21 = .ok (.iload_n 3, 1) := by decide +kernel
theorem dX0_fewestFor_22 : decode cX0_fewestFor 22 = .ok (.iload_n 1, 1) := by decide +kernel
theorem dX0_fewestFor_23 : decode cX0_fewestFor 23 = .ok (.invokestatic 19, 3) := by decide +kernel
theorem dX0_fewestFor_26 : decode cX0_fewestFor 26 = .ok (.istore 4, 2) := by decide +kernel
theorem dX0_fewestFor_28 : decode cX0_fewestFor 28 = .ok (.iload 4, 2) := by decide +kernel
theorem dX0_fewestFor_30 : decode cX0_fewestFor 30 = .ok (.ifCond .eq 6, 3) := by decide +kernel
theorem dX0_fewestFor_33 : decode cX0_fewestFor 33 = .ok (.iload 4, 2) := by decide +kernel
theorem dX0_fewestFor_35 : decode cX0_fewestFor 35 = .ok (.ireturn, 1) := by decide +kernel
theorem dX0_fewestFor_36 : decode cX0_fewestFor 36 = .ok (.iinc 3 1, 3) := by decide +kernel
theorem dX0_fewestFor_39 : decode cX0_fewestFor 39 = .ok (.goto (-31), 3) := by decide +kernel
theorem dX0_fewestFor_42 : decode cX0_fewestFor 42 = .ok (.iconst 0, 1) := by decide +kernel
theorem dX0_fewestFor_43 : decode cX0_fewestFor 43 = .ok (.ireturn, 1) := by decide +kernel
set_option maxRecDepth 20000 in
theorem ggX0_leastSet_X0_leastSet : GoodIn wsX0_leastSet wsX0_leastSet := goodIn_r _ [0, 1, 2, 3, 4] (by decide +kernel) (by decide +kernel)
set_option maxRecDepth 20000 in
theorem gX0_leastSet_X0_leastSet : GoodIn wsX0_leastSet (va_wsS RX0 19 yX0_leastSet wsX0_leastSet) := goodIn_app (goodIn_of _ (by decide +kernel)) ggX0_leastSet_X0_leastSet
theorem dX0_leastSet_0 : decode cX0_leastSet 0 = .ok (.iload_n 3, 1) := by decide +kernel
theorem dX0_leastSet_1 : decode cX0_leastSet 1 = .ok (.iconst 1, 1) := by decide +kernel
theorem dX0_leastSet_2 : decode cX0_leastSet 2 = .ok (.if_icmp .lt 28, 3) := by decide +kernel
theorem dX0_leastSet_5 : decode cX0_leastSet 5 = .ok (.iload_n 3, 1) := by decide +kernel
theorem dX0_leastSet_6 : decode cX0_leastSet 6 = .ok (.bipush 6, 2) := by decide +kernel
theorem dX0_leastSet_8 : decode cX0_leastSet 8 = .ok (.if_icmp .gt 22, 3) := by decide +kernel
theorem dX0_leastSet_11 : decode cX0_leastSet 11 = .ok (.iload 4, 2) := by decide +kernel
theorem dX0_leastSet_13 : decode cX0_leastSet 13 = .ok (.iload_n 3, 1) := by decide +kernel
theorem dX0_leastSet_14 : decode cX0_leastSet 14 = .ok (.sipush 500, 3) := by decide +kernel
theorem dX0_leastSet_17 : decode cX0_leastSet 17 = .ok (.imul, 1) := by decide +kernel
theorem dX0_leastSet_18 : decode cX0_leastSet 18 = .ok (.if_icmp .lt 12, 3) := by decide +kernel
theorem dX0_leastSet_21 : decode cX0_leastSet 21 = .ok (.iload 4, 2) := by decide +kernel
theorem dX0_leastSet_23 : decode cX0_leastSet 23 = .ok (.iload_n 3, 1) := by decide +kernel
theorem dX0_leastSet_24 : decode cX0_leastSet 24 = .ok (.ldc 25, 2) := by decide +kernel
theorem dX0_leastSet_26 : decode cX0_leastSet 26 = .ok (.imul, 1) := by decide +kernel
theorem dX0_leastSet_27 : decode cX0_leastSet 27 = .ok (.if_icmp .le 5, 3) := by decide +kernel
theorem dX0_leastSet_30 : decode cX0_leastSet 30 = .ok (.iconst 0, 1) := by decide +kernel
theorem dX0_leastSet_31 : decode cX0_leastSet 31 = .ok (.ireturn, 1) := by decide +kernel
theorem dX0_leastSet_32 : decode cX0_leastSet 32 = .ok (.iload_n 3, 1) := by decide +kernel
theorem dX0_leastSet_33 : decode cX0_leastSet 33 = .ok (.iconst 1, 1) := by decide +kernel
theorem dX0_leastSet_34 : decode cX0_leastSet 34 = .ok (.isub, 1) := by decide +kernel
theorem dX0_leastSet_35 : decode cX0_leastSet 35 = .ok (.istore 5, 2) := by decide +kernel
theorem dX0_leastSet_37 : decode cX0_leastSet 37 = .ok (.iload 5, 2) := by decide +kernel
theorem dX0_leastSet_39 : decode cX0_leastSet 39 = .ok (.iload_n 2, 1) := by decide +kernel
theorem dX0_leastSet_40 : decode cX0_leastSet 40 = .ok (.if_icmp .ge 85, 3) := by decide +kernel
theorem dX0_leastSet_43 : decode cX0_leastSet 43 = .ok (.iload 5, 2) := by decide +kernel
theorem dX0_leastSet_45 : decode cX0_leastSet 45 = .ok (.bipush 20, 2) := by decide +kernel
theorem dX0_leastSet_47 : decode cX0_leastSet 47 = .ok (.if_icmp .ge 78, 3) := by decide +kernel
theorem dX0_leastSet_50 : decode cX0_leastSet 50 = .ok (.iload_n 1, 1) := by decide +kernel
theorem dX0_leastSet_51 : decode cX0_leastSet 51 = .ok (.iload 5, 2) := by decide +kernel
theorem dX0_leastSet_53 : decode cX0_leastSet 53 = .ok (.ishr, 1) := by decide +kernel
theorem dX0_leastSet_54 : decode cX0_leastSet 54 = .ok (.iconst 1, 1) := by decide +kernel
theorem dX0_leastSet_55 : decode cX0_leastSet 55 = .ok (.iand, 1) := by decide +kernel
theorem dX0_leastSet_56 : decode cX0_leastSet 56 = .ok (.ifCond .eq 63, 3) := by decide +kernel
theorem dX0_leastSet_59 : decode cX0_leastSet 59 = .ok (.iload 4, 2) := by decide +kernel
theorem dX0_leastSet_61 : decode cX0_leastSet 61 = .ok (.aload_n 0, 1) := by decide +kernel
theorem dX0_leastSet_62 : decode cX0_leastSet 62 = .ok (.iload 5, 2) := by decide +kernel
theorem dX0_leastSet_64 : decode cX0_leastSet 64 = .ok (.iaload, 1) := by decide +kernel
theorem dX0_leastSet_65 : decode cX0_leastSet 65 = .ok (.isub, 1) := by decide +kernel
theorem dX0_leastSet_66 : decode cX0_leastSet 66 = .ok (.istore 6, 2) := by decide +kernel
theorem dX0_leastSet_68 : decode cX0_leastSet 68 = .ok (.iload_n 3, 1) := by decide +kernel
theorem dX0_leastSet_69 : decode cX0_leastSet 69 = .ok (.iconst 1, 1) := by decide +kernel
theorem dX0_leastSet_70 : decode cX0_leastSet 70 = .ok (.if_icmp .ne 13, 3) := by decide +kernel
theorem dX0_leastSet_73 : decode cX0_leastSet 73 = .ok (.iload 6, 2) := by decide +kernel
theorem dX0_leastSet_75 : decode cX0_leastSet 75 = .ok (.ifCond .ne 8, 3) := by decide +kernel
theorem dX0_leastSet_78 : decode cX0_leastSet 78 = .ok (.iconst 1, 1) := by decide +kernel
theorem dX0_leastSet_79 : decode cX0_leastSet 79 = .ok (.iload 5, 2) := by decide +kernel
theorem dX0_leastSet_81 : decode cX0_leastSet 81 = .ok (.ishl, 1) := by decide +kernel
theorem dX0_leastSet_82 : decode cX0_leastSet 82 = .ok (.ireturn, 1) := by decide +kernel
theorem dX0_leastSet_83 : decode cX0_leastSet 83 = .ok (.iload_n 3, 1) := by decide +kernel
theorem dX0_leastSet_84 : decode cX0_leastSet 84 = .ok (.iconst 1, 1) := by decide +kernel
theorem dX0_leastSet_85 : decode cX0_leastSet 85 = .ok (.if_icmp .ne 7, 3) := by decide +kernel
theorem dX0_leastSet_88 : decode cX0_leastSet 88 = .ok (.iconst 0, 1) := by decide +kernel
theorem dX0_leastSet_89 : decode cX0_leastSet 89 = .ok (.goto 15, 3) := by decide +kernel
theorem dX0_leastSet_92 : decode cX0_leastSet 92 = .ok (.aload_n 0, 1) := by decide +kernel
theorem dX0_leastSet_93 : decode cX0_leastSet 93 = .ok (.iload_n 1, 1) := by decide +kernel
theorem dX0_leastSet_94 : decode cX0_leastSet 94 = .ok (.iload 5, 2) := by decide +kernel
theorem dX0_leastSet_96 : decode cX0_leastSet 96 = .ok (.iload_n 3, 1) := by decide +kernel
theorem dX0_leastSet_97 : decode cX0_leastSet 97 = .ok (.iconst 1, 1) := by decide +kernel
theorem dX0_leastSet_98 : decode cX0_leastSet 98 = .ok (.isub, 1) := by decide +kernel
theorem dX0_leastSet_99 : decode cX0_leastSet 99 = .ok (.iload 6, 2) := by decide +kernel
theorem dX0_leastSet_101 : decode cX0_leastSet 101 = .ok (.invokestatic 19, 3) := by decide +kernel
theorem dX0_leastSet_104 : decode cX0_leastSet 104 = .ok (.istore 7, 2) := by decide +kernel
theorem dX0_leastSet_106 : decode cX0_leastSet 106 = .ok (.iload 7, 2) := by decide +kernel
theorem dX0_leastSet_108 : decode cX0_leastSet 108 = .ok (.ifCond .eq 11, 3) := by decide +kernel
theorem dX0_leastSet_111 : decode cX0_leastSet 111 = .ok (.iload 7, 2) := by decide +kernel
theorem dX0_leastSet_113 : decode cX0_leastSet 113 = .ok (.iconst 1, 1) := by decide +kernel
theorem dX0_leastSet_114 : decode cX0_leastSet 114 = .ok (.iload 5, 2) := by decide +kernel
theorem dX0_leastSet_116 : decode cX0_leastSet 116 = .ok (.ishl, 1) := by decide +kernel
theorem dX0_leastSet_117 : decode cX0_leastSet 117 = .ok (.ior, 1) := by decide +kernel
theorem dX0_leastSet_118 : decode cX0_leastSet 118 = .ok (.ireturn, 1) := by decide +kernel
theorem dX0_leastSet_119 : decode cX0_leastSet 119 = .ok (.iinc 5 1, 3) := by decide +kernel
theorem dX0_leastSet_122 : decode cX0_leastSet 122 = .ok (.goto (-85), 3) := by decide +kernel
theorem dX0_leastSet_125 : decode cX0_leastSet 125 = .ok (.iconst 0, 1) := by decide +kernel
theorem dX0_leastSet_126 : decode cX0_leastSet 126 = .ok (.ireturn, 1) := by decide +kernel
set_option maxRecDepth 20000 in
theorem ggX0_takenByOldWay_X0_nextOfOldWay : GoodIn wsX0_takenByOldWay wsX0_nextOfOldWay := goodIn_r _ [5, 6, 1, 7, 8, 4, 9, 10, 11, 12, 13, 14, 15, 16, 17, 18, 19, 20, 21, 22, 23, 24, 25, 26, 27, 28] (by decide +kernel) (by decide +kernel)
set_option maxRecDepth 20000 in
theorem gX0_takenByOldWay_X0_nextOfOldWay : GoodIn wsX0_takenByOldWay (va_wsS RX0 26 yX0_nextOfOldWay wsX0_nextOfOldWay) := goodIn_app (goodIn_of _ (by decide +kernel)) ggX0_takenByOldWay_X0_nextOfOldWay
theorem dX0_takenByOldWay_0 : decode cX0_takenByOldWay 0 = .ok (.iload_n 1, 1) := by decide +kernel
theorem dX0_takenByOldWay_1 : decode cX0_takenByOldWay 1 = .ok (.istore_n 2, 1) := by decide +kernel
theorem dX0_takenByOldWay_2 : decode cX0_takenByOldWay 2 = .ok (.iconst 0, 1) := by decide +kernel
theorem dX0_takenByOldWay_3 : decode cX0_takenByOldWay 3 = .ok (.istore_n 3, 1) := by decide +kernel
theorem dX0_takenByOldWay_4 : decode cX0_takenByOldWay 4 = .ok (.iconst 0, 1) := by decide +kernel
theorem dX0_takenByOldWay_5 : decode cX0_takenByOldWay 5 = .ok (.istore 4, 2) := by decide +kernel
theorem dX0_takenByOldWay_7 : decode cX0_takenByOldWay 7 = .ok (.iload 4, 2) := by decide +kernel
theorem dX0_takenByOldWay_9 : decode cX0_takenByOldWay 9 = .ok (.bipush 6, 2) := by decide +kernel
theorem dX0_takenByOldWay_11 : decode cX0_takenByOldWay 11 = .ok (.if_icmp .ge 46, 3) := by decide +kernel
theorem dX0_takenByOldWay_14 : decode cX0_takenByOldWay 14 = .ok (.iload_n 2, 1) := by decide +kernel
theorem dX0_takenByOldWay_15 : decode cX0_takenByOldWay 15 = .ok (.ifCond .le 42, 3) := by decide +kernel
theorem dX0_takenByOldWay_18 : decode cX0_takenByOldWay 18 = .ok (.aload_n 0, 1) := by decide +kernel
theorem dX0_takenByOldWay_19 : decode cX0_takenByOldWay 19 = .ok (.iload_n 3, 1) := by decide +kernel
theorem dX0_takenByOldWay_20 : decode cX0_takenByOldWay 20 = .ok (.iload_n 2, 1) := by decide +kernel
theorem dX0_takenByOldWay_21 : decode cX0_takenByOldWay 21 = .ok (.invokestatic 26, 3) := by decide +kernel
theorem dX0_takenByOldWay_24 : decode cX0_takenByOldWay 24 = .ok (.istore 5, 2) := by decide +kernel
theorem dX0_takenByOldWay_26 : decode cX0_takenByOldWay 26 = .ok (.iload 5, 2) := by decide +kernel
theorem dX0_takenByOldWay_28 : decode cX0_takenByOldWay 28 = .ok (.iconst (-1), 1) := by decide +kernel
theorem dX0_takenByOldWay_29 : decode cX0_takenByOldWay 29 = .ok (.if_icmp .ne 5, 3) := by decide +kernel
theorem dX0_takenByOldWay_32 : decode cX0_takenByOldWay 32 = .ok (.iload_n 3, 1) := by decide +kernel
theorem dX0_takenByOldWay_33 : decode cX0_takenByOldWay 33 = .ok (.ireturn, 1) := by decide +kernel
theorem dX0_takenByOldWay_34 : decode cX0_takenByOldWay 34 = .ok (.iload_n 3, 1) := by decide +kernel
theorem dX0_takenByOldWay_35 : decode cX0_takenByOldWay 35 = .ok (.iconst 1, 1) := by decide +kernel
theorem dX0_takenByOldWay_36 : decode cX0_takenByOldWay 36 = .ok (.iload 5, 2) := by decide +kernel
theorem dX0_takenByOldWay_38 : decode cX0_takenByOldWay 38 = .ok (.ishl, 1) := by decide +kernel
theorem dX0_takenByOldWay_39 : decode cX0_takenByOldWay 39 = .ok (.ior, 1) := by decide +kernel
theorem dX0_takenByOldWay_40 : decode cX0_takenByOldWay 40 = .ok (.istore_n 3, 1) := by decide +kernel
theorem dX0_takenByOldWay_41 : decode cX0_takenByOldWay 41 = .ok (.iload_n 2, 1) := by decide +kernel
theorem dX0_takenByOldWay_42 : decode cX0_takenByOldWay 42 = .ok (.aload_n 0, 1) := by decide +kernel
theorem dX0_takenByOldWay_43 : decode cX0_takenByOldWay 43 = .ok (.getfield 15, 3) := by decide +kernel
theorem dX0_takenByOldWay_46 : decode cX0_takenByOldWay 46 = .ok (.iload 5, 2) := by decide +kernel
theorem dX0_takenByOldWay_48 : decode cX0_takenByOldWay 48 = .ok (.iaload, 1) := by decide +kernel
theorem dX0_takenByOldWay_49 : decode cX0_takenByOldWay 49 = .ok (.isub, 1) := by decide +kernel
theorem dX0_takenByOldWay_50 : decode cX0_takenByOldWay 50 = .ok (.istore_n 2, 1) := by decide +kernel
theorem dX0_takenByOldWay_51 : decode cX0_takenByOldWay 51 = .ok (.iinc 4 1, 3) := by decide +kernel
theorem dX0_takenByOldWay_54 : decode cX0_takenByOldWay 54 = .ok (.goto (-47), 3) := by decide +kernel
theorem dX0_takenByOldWay_57 : decode cX0_takenByOldWay 57 = .ok (.iload_n 3, 1) := by decide +kernel
theorem dX0_takenByOldWay_58 : decode cX0_takenByOldWay 58 = .ok (.ireturn, 1) := by decide +kernel
set_option maxRecDepth 20000 in
theorem ggX0_nextOfOldWay_X0_zerosAtEnd : GoodIn wsX0_nextOfOldWay wsX0_zerosAtEnd := goodIn_r _ [6] (by decide +kernel) (by decide +kernel)
set_option maxRecDepth 20000 in
theorem gX0_nextOfOldWay_X0_zerosAtEnd : GoodIn wsX0_nextOfOldWay (va_wsS RX0 30 yX0_zerosAtEnd wsX0_zerosAtEnd) := goodIn_app (goodIn_of _ (by decide +kernel)) ggX0_nextOfOldWay_X0_zerosAtEnd
set_option maxRecDepth 20000 in
theorem ggX0_nextOfOldWay_X3_isFree : GoodIn wsX0_nextOfOldWay wsX3_isFree := goodIn_r _ [11, 12, 13, 14, 15, 16, 17, 18, 19, 20, 21, 22, 23, 24, 25] (by decide +kernel) (by decide +kernel)
set_option maxRecDepth 20000 in
theorem gX0_nextOfOldWay_X3_isFree : GoodIn wsX0_nextOfOldWay (wsV RX0 37 RX3 yX3_isFree wsX3_isFree) := goodIn_app (goodIn_of _ (by decide +kernel)) ggX0_nextOfOldWay_X3_isFree
theorem dX0_nextOfOldWay_0 : decode cX0_nextOfOldWay 0 = .ok (.iload_n 2, 1) := by decide +kernel
theorem dX0_nextOfOldWay_1 : decode cX0_nextOfOldWay 1 = .ok (.invokestatic 30, 3) := by decide +kernel
theorem dX0_nextOfOldWay_4 : decode cX0_nextOfOldWay 4 = .ok (.istore_n 3, 1) := by decide +kernel
theorem dX0_nextOfOldWay_5 : decode cX0_nextOfOldWay 5 = .ok (.iconst (-1), 1) := by decide +kernel
theorem dX0_nextOfOldWay_6 : decode cX0_nextOfOldWay 6 = .ok (.istore 4, 2) := by decide +kernel
theorem dX0_nextOfOldWay_8 : decode cX0_nextOfOldWay 8 = .ok (.iconst 0, 1) := by decide +kernel
theorem dX0_nextOfOldWay_9 : decode cX0_nextOfOldWay 9 = .ok (.istore 5, 2) := by decide +kernel
theorem dX0_nextOfOldWay_11 : decode cX0_nextOfOldWay 11 = .ok (.iload 5, 2) := by decide +kernel
theorem dX0_nextOfOldWay_13 : decode cX0_nextOfOldWay 13 = .ok (.aload_n 0, 1) := by decide +kernel
theorem dX0_nextOfOldWay_14 : decode cX0_nextOfOldWay 14 = .ok (.getfield 33, 3) := by decide +kernel
theorem dX0_nextOfOldWay_17 : decode cX0_nextOfOldWay 17 = .ok (.if_icmp .ge 103, 3) := by decide +kernel
theorem dX0_nextOfOldWay_20 : decode cX0_nextOfOldWay 20 = .ok (.iload_n 2, 1) := by decide +kernel
theorem dX0_nextOfOldWay_21 : decode cX0_nextOfOldWay 21 = .ok (.aload_n 0, 1) := by decide +kernel
theorem dX0_nextOfOldWay_22 : decode cX0_nextOfOldWay 22 = .ok (.getfield 15, 3) := by decide +kernel
theorem dX0_nextOfOldWay_25 : decode cX0_nextOfOldWay 25 = .ok (.iload 5, 2) := by decide +kernel
theorem dX0_nextOfOldWay_27 : decode cX0_nextOfOldWay 27 = .ok (.iaload, 1) := by decide +kernel
theorem dX0_nextOfOldWay_28 : decode cX0_nextOfOldWay 28 = .ok (.isub, 1) := by decide +kernel
theorem dX0_nextOfOldWay_29 : decode cX0_nextOfOldWay 29 = .ok (.istore 6, 2) := by decide +kernel
theorem dX0_nextOfOldWay_31 : decode cX0_nextOfOldWay 31 = .ok (.aload_n 0, 1) := by decide +kernel
theorem dX0_nextOfOldWay_32 : decode cX0_nextOfOldWay 32 = .ok (.iload 5, 2) := by decide +kernel
theorem dX0_nextOfOldWay_34 : decode cX0_nextOfOldWay 34 = .ok (.invokevirtual 37, 3) := by decide +kernel
theorem dX0_nextOfOldWay_37 : decode cX0_nextOfOldWay 37 = .ok (.ifCond .eq 16, 3) := by decide +kernel
theorem dX0_nextOfOldWay_40 : decode cX0_nextOfOldWay 40 = .ok (.iload_n 1, 1) := by decide +kernel
theorem dX0_nextOfOldWay_41 : decode cX0_nextOfOldWay 41 = .ok (.iload 5, 2) := by decide +kernel
theorem dX0_nextOfOldWay_43 : decode cX0_nextOfOldWay 43 = .ok (.ishr, 1) := by decide +kernel
theorem dX0_nextOfOldWay_44 : decode cX0_nextOfOldWay 44 = .ok (.iconst 1, 1) := by decide +kernel
theorem dX0_nextOfOldWay_45 : decode cX0_nextOfOldWay 45 = .ok (.iand, 1) := by decide +kernel
theorem dX0_nextOfOldWay_46 : decode cX0_nextOfOldWay 46 = .ok (.ifCond .ne 7, 3) := by decide +kernel
theorem dX0_nextOfOldWay_49 : decode cX0_nextOfOldWay 49 = .ok (.iconst 1, 1) := by decide +kernel
theorem dX0_nextOfOldWay_50 : decode cX0_nextOfOldWay 50 = .ok (.goto 4, 3) := by decide +kernel
theorem dX0_nextOfOldWay_53 : decode cX0_nextOfOldWay 53 = .ok (.iconst 0, 1) := by decide +kernel
theorem dX0_nextOfOldWay_54 : decode cX0_nextOfOldWay 54 = .ok (.istore 7, 2) := by decide +kernel
theorem dX0_nextOfOldWay_56 : decode cX0_nextOfOldWay 56 = .ok (.iload 7, 2) := by decide +kernel
theorem dX0_nextOfOldWay_58 : decode cX0_nextOfOldWay 58 = .ok (.ifCond .eq 21, 3) := by decide +kernel
theorem dX0_nextOfOldWay_61 : decode cX0_nextOfOldWay 61 = .ok (.iload 6, 2) := by decide +kernel
theorem dX0_nextOfOldWay_63 : decode cX0_nextOfOldWay 63 = .ok (.ifCond .lt 16, 3) := by decide +kernel
theorem dX0_nextOfOldWay_66 : decode cX0_nextOfOldWay 66 = .ok (.iload 6, 2) := by decide +kernel
theorem dX0_nextOfOldWay_68 : decode cX0_nextOfOldWay 68 = .ok (.invokestatic 30, 3) := by decide +kernel
theorem dX0_nextOfOldWay_71 : decode cX0_nextOfOldWay 71 = .ok (.iload_n 3, 1) := by decide +kernel
theorem dX0_nextOfOldWay_72 : decode cX0_nextOfOldWay 72 = .ok (.if_icmp .le 7, 3) := by decide +kernel
theorem dX0_nextOfOldWay_75 : decode cX0_nextOfOldWay 75 = .ok (.iconst 1, 1) := by decide +kernel
theorem dX0_nextOfOldWay_76 : decode cX0_nextOfOldWay 76 = .ok (.goto 4, 3) := by decide +kernel
theorem dX0_nextOfOldWay_79 : decode cX0_nextOfOldWay 79 = .ok (.iconst 0, 1) := by decide +kernel
theorem dX0_nextOfOldWay_80 : decode cX0_nextOfOldWay 80 = .ok (.istore 8, 2) := by decide +kernel
theorem dX0_nextOfOldWay_82 : decode cX0_nextOfOldWay 82 = .ok (.iload 8, 2) := by decide +kernel
theorem dX0_nextOfOldWay_84 : decode cX0_nextOfOldWay 84 = .ok (.ifCond .eq 30, 3) := by decide +kernel
theorem dX0_nextOfOldWay_87 : decode cX0_nextOfOldWay 87 = .ok (.iload 4, 2) := by decide +kernel
theorem dX0_nextOfOldWay_89 : decode cX0_nextOfOldWay 89 = .ok (.iconst (-1), 1) := by decide +kernel
theorem dX0_nextOfOldWay_90 : decode cX0_nextOfOldWay 90 = .ok (.if_icmp .eq 20, 3) := by decide +kernel
theorem dX0_nextOfOldWay_93 : decode cX0_nextOfOldWay 93 = .ok (.aload_n 0, 1) := by decide +kernel
theorem dX0_nextOfOldWay_94 : decode cX0_nextOfOldWay 94 = .ok (.getfield 15, 3) := by decide +kernel
theorem dX0_nextOfOldWay_97 : decode cX0_nextOfOldWay 97 = .ok (.iload 5, 2) := by decide +kernel
theorem dX0_nextOfOldWay_99 : decode cX0_nextOfOldWay 99 = .ok (.iaload, 1) := by decide +kernel
theorem dX0_nextOfOldWay_100 : decode cX0_nextOfOldWay 100 = .ok (.aload_n 0, 1) := by decide +kernel
theorem dX0_nextOfOldWay_101 : decode cX0_nextOfOldWay 101 = .ok (.getfield 15, 3) := by decide +kernel
theorem dX0_nextOfOldWay_104 : decode cX0_nextOfOldWay 104 = .ok (.iload 4, 2) := by decide +kernel
theorem dX0_nextOfOldWay_106 : decode cX0_nextOfOldWay 106 = .ok (.iaload, 1) := by decide +kernel
theorem dX0_nextOfOldWay_107 : decode cX0_nextOfOldWay 107 = .ok (.if_icmp .le 7, 3) := by decide +kernel
theorem dX0_nextOfOldWay_110 : decode cX0_nextOfOldWay 110 = .ok (.iload 5, 2) := by decide +kernel
theorem dX0_nextOfOldWay_112 : decode cX0_nextOfOldWay 112 = .ok (.istore 4, 2) := by decide +kernel
theorem dX0_nextOfOldWay_114 : decode cX0_nextOfOldWay 114 = .ok (.iinc 5 1, 3) := by decide +kernel
theorem dX0_nextOfOldWay_117 : decode cX0_nextOfOldWay 117 = .ok (.goto (-106), 3) := by decide +kernel
theorem dX0_nextOfOldWay_120 : decode cX0_nextOfOldWay 120 = .ok (.iload 4, 2) := by decide +kernel
theorem dX0_nextOfOldWay_122 : decode cX0_nextOfOldWay 122 = .ok (.ireturn, 1) := by decide +kernel
theorem dX0_zerosAtEnd_0 : decode cX0_zerosAtEnd 0 = .ok (.iload_n 0, 1) := by decide +kernel
theorem dX0_zerosAtEnd_1 : decode cX0_zerosAtEnd 1 = .ok (.istore_n 1, 1) := by decide +kernel
theorem dX0_zerosAtEnd_2 : decode cX0_zerosAtEnd 2 = .ok (.iconst 0, 1) := by decide +kernel
theorem dX0_zerosAtEnd_3 : decode cX0_zerosAtEnd 3 = .ok (.istore_n 2, 1) := by decide +kernel
theorem dX0_zerosAtEnd_4 : decode cX0_zerosAtEnd 4 = .ok (.iload_n 2, 1) := by decide +kernel
theorem dX0_zerosAtEnd_5 : decode cX0_zerosAtEnd 5 = .ok (.bipush 6, 2) := by decide +kernel
theorem dX0_zerosAtEnd_7 : decode cX0_zerosAtEnd 7 = .ok (.if_icmp .ge 21, 3) := by decide +kernel
theorem dX0_zerosAtEnd_10 : decode cX0_zerosAtEnd 10 = .ok (.iload_n 1, 1) := by decide +kernel
theorem dX0_zerosAtEnd_11 : decode cX0_zerosAtEnd 11 = .ok (.bipush 10, 2) := by decide +kernel
theorem dX0_zerosAtEnd_13 : decode cX0_zerosAtEnd 13 = .ok (.irem, 1) := by decide +kernel
theorem dX0_zerosAtEnd_14 : decode cX0_zerosAtEnd 14 = .ok (.ifCond .ne 14, 3) := by decide +kernel
theorem dX0_zerosAtEnd_17 : decode cX0_zerosAtEnd 17 = .ok (.iload_n 1, 1) := by decide +kernel
theorem dX0_zerosAtEnd_18 : decode cX0_zerosAtEnd 18 = .ok (.bipush 10, 2) := by decide +kernel
theorem dX0_zerosAtEnd_20 : decode cX0_zerosAtEnd 20 = .ok (.idiv, 1) := by decide +kernel
theorem dX0_zerosAtEnd_21 : decode cX0_zerosAtEnd 21 = .ok (.istore_n 1, 1) := by decide +kernel
theorem dX0_zerosAtEnd_22 : decode cX0_zerosAtEnd 22 = .ok (.iinc 2 1, 3) := by decide +kernel
theorem dX0_zerosAtEnd_25 : decode cX0_zerosAtEnd 25 = .ok (.goto (-21), 3) := by decide +kernel
theorem dX0_zerosAtEnd_28 : decode cX0_zerosAtEnd 28 = .ok (.iload_n 2, 1) := by decide +kernel
theorem dX0_zerosAtEnd_29 : decode cX0_zerosAtEnd 29 = .ok (.ireturn, 1) := by decide +kernel
set_option maxRecDepth 20000 in
theorem ggX0_nearestTo_X3_isFree : GoodIn wsX0_nearestTo wsX3_isFree := goodIn_r _ [7, 8, 20, 21, 22, 23, 24, 25, 26, 27, 28, 29, 30, 31, 32] (by decide +kernel) (by decide +kernel)
set_option maxRecDepth 20000 in
theorem gX0_nearestTo_X3_isFree : GoodIn wsX0_nearestTo (wsV RX0 37 RX3 yX3_isFree wsX3_isFree) := goodIn_app (goodIn_of _ (by decide +kernel)) ggX0_nearestTo_X3_isFree
set_option maxRecDepth 20000 in
theorem ggX0_nearestTo_X0_nearer : GoodIn wsX0_nearestTo wsX0_nearer := goodIn_r _ [12, 13, 14, 15, 16, 17, 18, 19] (by decide +kernel) (by decide +kernel)
set_option maxRecDepth 20000 in
theorem gX0_nearestTo_X0_nearer : GoodIn wsX0_nearestTo (va_wsS RX0 41 yX0_nearer wsX0_nearer) := goodIn_app (goodIn_of _ (by decide +kernel)) ggX0_nearestTo_X0_nearer
theorem dX0_nearestTo_0 : decode cX0_nearestTo 0 = .ok (.iconst (-1), 1) := by decide +kernel
theorem dX0_nearestTo_1 : decode cX0_nearestTo 1 = .ok (.istore_n 2, 1) := by decide +kernel
theorem dX0_nearestTo_2 : decode cX0_nearestTo 2 = .ok (.iconst 0, 1) := by decide +kernel
theorem dX0_nearestTo_3 : decode cX0_nearestTo 3 = .ok (.istore_n 3, 1) := by decide +kernel
theorem dX0_nearestTo_4 : decode cX0_nearestTo 4 = .ok (.iload_n 3, 1) := by decide +kernel
theorem dX0_nearestTo_5 : decode cX0_nearestTo 5 = .ok (.aload_n 0, 1) := by decide +kernel
theorem dX0_nearestTo_6 : decode cX0_nearestTo 6 = .ok (.getfield 33, 3) := by decide +kernel
theorem dX0_nearestTo_9 : decode cX0_nearestTo 9 = .ok (.if_icmp .ge 73, 3) := by decide +kernel
theorem dX0_nearestTo_12 : decode cX0_nearestTo 12 = .ok (.aload_n 0, 1) := by decide +kernel
theorem dX0_nearestTo_13 : decode cX0_nearestTo 13 = .ok (.iload_n 3, 1) := by decide +kernel
theorem dX0_nearestTo_14 : decode cX0_nearestTo 14 = .ok (.invokevirtual 37, 3) := by decide +kernel
theorem dX0_nearestTo_17 : decode cX0_nearestTo 17 = .ok (.ifCond .eq 59, 3) := by decide +kernel
theorem dX0_nearestTo_20 : decode cX0_nearestTo 20 = .ok (.iload_n 2, 1) := by decide +kernel
theorem dX0_nearestTo_21 : decode cX0_nearestTo 21 = .ok (.aload_n 0, 1) := by decide +kernel
theorem dX0_nearestTo_22 : decode cX0_nearestTo 22 = .ok (.getfield 15, 3) := by decide +kernel
theorem dX0_nearestTo_25 : decode cX0_nearestTo 25 = .ok (.iload_n 3, 1) := by decide +kernel
theorem dX0_nearestTo_26 : decode cX0_nearestTo 26 = .ok (.iaload, 1) := by decide +kernel
theorem dX0_nearestTo_27 : decode cX0_nearestTo 27 = .ok (.iload_n 1, 1) := by decide +kernel
theorem dX0_nearestTo_28 : decode cX0_nearestTo 28 = .ok (.invokestatic 41, 3) := by decide +kernel
theorem dX0_nearestTo_31 : decode cX0_nearestTo 31 = .ok (.istore_n 2, 1) := by decide +kernel
theorem dX0_nearestTo_32 : decode cX0_nearestTo 32 = .ok (.iconst 0, 1) := by decide +kernel
theorem dX0_nearestTo_33 : decode cX0_nearestTo 33 = .ok (.istore 4, 2) := by decide +kernel
theorem dX0_nearestTo_35 : decode cX0_nearestTo 35 = .ok (.iload 4, 2) := by decide +kernel
theorem dX0_nearestTo_37 : decode cX0_nearestTo 37 = .ok (.iload_n 3, 1) := by decide +kernel
theorem dX0_nearestTo_38 : decode cX0_nearestTo 38 = .ok (.if_icmp .ge 38, 3) := by decide +kernel
theorem dX0_nearestTo_41 : decode cX0_nearestTo 41 = .ok (.aload_n 0, 1) := by decide +kernel
theorem dX0_nearestTo_42 : decode cX0_nearestTo 42 = .ok (.iload 4, 2) := by decide +kernel
theorem dX0_nearestTo_44 : decode cX0_nearestTo 44 = .ok (.invokevirtual 37, 3) := by decide +kernel
theorem dX0_nearestTo_47 : decode cX0_nearestTo 47 = .ok (.ifCond .eq 23, 3) := by decide +kernel
theorem dX0_nearestTo_50 : decode cX0_nearestTo 50 = .ok (.iload_n 2, 1) := by decide +kernel
theorem dX0_nearestTo_51 : decode cX0_nearestTo 51 = .ok (.aload_n 0, 1) := by decide +kernel
theorem dX0_nearestTo_52 : decode cX0_nearestTo 52 = .ok (.getfield 15, 3) := by decide +kernel
theorem dX0_nearestTo_55 : decode cX0_nearestTo 55 = .ok (.iload_n 3, 1) := by decide +kernel
theorem dX0_nearestTo_56 : decode cX0_nearestTo 56 = .ok (.iaload, 1) := by decide +kernel
theorem dX0_nearestTo_57 : decode cX0_nearestTo 57 = .ok (.aload_n 0, 1) := by decide +kernel
theorem dX0_nearestTo_58 : decode cX0_nearestTo 58 = .ok (.getfield 15, 3) := by decide +kernel
theorem dX0_nearestTo_61 : decode cX0_nearestTo 61 = .ok (.iload 4, 2) := by decide +kernel
theorem dX0_nearestTo_63 : decode cX0_nearestTo 63 = .ok (.iaload, 1) := by decide +kernel
theorem dX0_nearestTo_64 : decode cX0_nearestTo 64 = .ok (.iadd, 1) := by decide +kernel
theorem dX0_nearestTo_65 : decode cX0_nearestTo 65 = .ok (.iload_n 1, 1) := by decide +kernel
theorem dX0_nearestTo_66 : decode cX0_nearestTo 66 = .ok (.invokestatic 41, 3) := by decide +kernel
theorem dX0_nearestTo_69 : decode cX0_nearestTo 69 = .ok (.istore_n 2, 1) := by decide +kernel
theorem dX0_nearestTo_70 : decode cX0_nearestTo 70 = .ok (.iinc 4 1, 3) := by decide +kernel
theorem dX0_nearestTo_73 : decode cX0_nearestTo 73 = .ok (.goto (-38), 3) := by decide +kernel
theorem dX0_nearestTo_76 : decode cX0_nearestTo 76 = .ok (.iinc 3 1, 3) := by decide +kernel
theorem dX0_nearestTo_79 : decode cX0_nearestTo 79 = .ok (.goto (-75), 3) := by decide +kernel
theorem dX0_nearestTo_82 : decode cX0_nearestTo 82 = .ok (.iload_n 2, 1) := by decide +kernel
theorem dX0_nearestTo_83 : decode cX0_nearestTo 83 = .ok (.ireturn, 1) := by decide +kernel
theorem dX0_nearer_0 : decode cX0_nearer 0 = .ok (.iload_n 0, 1) := by decide +kernel
theorem dX0_nearer_1 : decode cX0_nearer 1 = .ok (.iconst (-1), 1) := by decide +kernel
theorem dX0_nearer_2 : decode cX0_nearer 2 = .ok (.if_icmp .ne 5, 3) := by decide +kernel
theorem dX0_nearer_5 : decode cX0_nearer 5 = .ok (.iload_n 1, 1) := by decide +kernel
theorem dX0_nearer_6 : decode cX0_nearer 6 = .ok (.ireturn, 1) := by decide +kernel
theorem dX0_nearer_7 : decode cX0_nearer 7 = .ok (.iload_n 0, 1) := by decide +kernel
theorem dX0_nearer_8 : decode cX0_nearer 8 = .ok (.iload_n 2, 1) := by decide +kernel
theorem dX0_nearer_9 : decode cX0_nearer 9 = .ok (.isub, 1) := by decide +kernel
theorem dX0_nearer_10 : decode cX0_nearer 10 = .ok (.invokestatic 45, 3) := by decide +kernel
theorem dX0_nearer_13 : decode cX0_nearer 13 = .ok (.iload_n 1, 1) := by decide +kernel
theorem dX0_nearer_14 : decode cX0_nearer 14 = .ok (.iload_n 2, 1) := by decide +kernel
theorem dX0_nearer_15 : decode cX0_nearer 15 = .ok (.isub, 1) := by decide +kernel
theorem dX0_nearer_16 : decode cX0_nearer 16 = .ok (.invokestatic 45, 3) := by decide +kernel
theorem dX0_nearer_19 : decode cX0_nearer 19 = .ok (.isub, 1) := by decide +kernel
theorem dX0_nearer_20 : decode cX0_nearer 20 = .ok (.istore_n 3, 1) := by decide +kernel
theorem dX0_nearer_21 : decode cX0_nearer 21 = .ok (.iload_n 3, 1) := by decide +kernel
theorem dX0_nearer_22 : decode cX0_nearer 22 = .ok (.ifCond .ne 9, 3) := by decide +kernel
theorem dX0_nearer_25 : decode cX0_nearer 25 = .ok (.iload_n 0, 1) := by decide +kernel
theorem dX0_nearer_26 : decode cX0_nearer 26 = .ok (.iload_n 1, 1) := by decide +kernel
theorem dX0_nearer_27 : decode cX0_nearer 27 = .ok (.invokestatic 50, 3) := by decide +kernel
theorem dX0_nearer_30 : decode cX0_nearer 30 = .ok (.ireturn, 1) := by decide +kernel
theorem dX0_nearer_31 : decode cX0_nearer 31 = .ok (.iload_n 3, 1) := by decide +kernel
theorem dX0_nearer_32 : decode cX0_nearer 32 = .ok (.ifCond .le 7, 3) := by decide +kernel
theorem dX0_nearer_35 : decode cX0_nearer 35 = .ok (.iload_n 1, 1) := by decide +kernel
theorem dX0_nearer_36 : decode cX0_nearer 36 = .ok (.goto 4, 3) := by decide +kernel
theorem dX0_nearer_39 : decode cX0_nearer 39 = .ok (.iload_n 0, 1) := by decide +kernel
theorem dX0_nearer_40 : decode cX0_nearer 40 = .ok (.ireturn, 1) := by decide +kernel
set_option maxRecDepth 20000 in
theorem ggX0_blockOfRank_X0_manyBefore : GoodIn wsX0_blockOfRank wsX0_manyBefore := goodIn_r _ [5, 1, 6, 7, 4, 8, 9, 10, 11, 12, 13, 14, 15, 16, 17, 18, 19, 20, 21, 22, 23, 24, 25, 26, 27, 28, 29, 30, 31, 32, 33, 34, 35, 36, 37, 38] (by decide +kernel) (by decide +kernel)
set_option maxRecDepth 20000 in
theorem gX0_blockOfRank_X0_manyBefore : GoodIn wsX0_blockOfRank (va_wsS RX0 54 yX0_manyBefore wsX0_manyBefore) := goodIn_app (goodIn_of _ (by decide +kernel)) ggX0_blockOfRank_X0_manyBefore
theorem dX0_blockOfRank_0 : decode cX0_blockOfRank 0 = .ok (.iconst 0, 1) := by decide +kernel
theorem dX0_blockOfRank_1 : decode cX0_blockOfRank 1 = .ok (.istore_n 3, 1) := by decide +kernel
theorem dX0_blockOfRank_2 : decode cX0_blockOfRank 2 = .ok (.iload_n 3, 1) := by decide +kernel
theorem dX0_blockOfRank_3 : decode cX0_blockOfRank 3 = .ok (.aload_n 0, 1) := by decide +kernel
theorem dX0_blockOfRank_4 : decode cX0_blockOfRank 4 = .ok (.getfield 33, 3) := by decide +kernel
theorem dX0_blockOfRank_7 : decode cX0_blockOfRank 7 = .ok (.if_icmp .ge 21, 3) := by decide +kernel
theorem dX0_blockOfRank_10 : decode cX0_blockOfRank 10 = .ok (.aload_n 0, 1) := by decide +kernel
theorem dX0_blockOfRank_11 : decode cX0_blockOfRank 11 = .ok (.iload_n 1, 1) := by decide +kernel
theorem dX0_blockOfRank_12 : decode cX0_blockOfRank 12 = .ok (.iload_n 3, 1) := by decide +kernel
theorem dX0_blockOfRank_13 : decode cX0_blockOfRank 13 = .ok (.invokestatic 54, 3) := by decide +kernel
theorem dX0_blockOfRank_16 : decode cX0_blockOfRank 16 = .ok (.iload_n 2, 1) := by decide +kernel
theorem dX0_blockOfRank_17 : decode cX0_blockOfRank 17 = .ok (.if_icmp .ne 5, 3) := by decide +kernel
theorem dX0_blockOfRank_20 : decode cX0_blockOfRank 20 = .ok (.iload_n 3, 1) := by decide +kernel
theorem dX0_blockOfRank_21 : decode cX0_blockOfRank 21 = .ok (.ireturn, 1) := by decide +kernel
theorem dX0_blockOfRank_22 : decode cX0_blockOfRank 22 = .ok (.iinc 3 1, 3) := by decide +kernel
theorem dX0_blockOfRank_25 : decode cX0_blockOfRank 25 = .ok (.goto (-23), 3) := by decide +kernel
theorem dX0_blockOfRank_28 : decode cX0_blockOfRank 28 = .ok (.iconst (-1), 1) := by decide +kernel
theorem dX0_blockOfRank_29 : decode cX0_blockOfRank 29 = .ok (.ireturn, 1) := by decide +kernel
set_option maxRecDepth 20000 in
theorem ggX0_manyBefore_X0_sortKey : GoodIn wsX0_manyBefore wsX0_sortKey := goodIn_r _ [5, 6, 7, 8, 9, 10, 11, 12, 13, 14, 15, 16, 17, 18, 19, 20, 21, 22, 23, 24, 25, 26, 27, 28, 29, 30, 31, 32, 33, 34, 35] (by decide +kernel) (by decide +kernel)
set_option maxRecDepth 20000 in
theorem gX0_manyBefore_X0_sortKey : GoodIn wsX0_manyBefore (va_wsS RX0 57 yX0_sortKey wsX0_sortKey) := goodIn_app (goodIn_of _ (by decide +kernel)) ggX0_manyBefore_X0_sortKey
theorem dX0_manyBefore_0 : decode cX0_manyBefore 0 = .ok (.iconst 0, 1) := by decide +kernel
theorem dX0_manyBefore_1 : decode cX0_manyBefore 1 = .ok (.istore_n 3, 1) := by decide +kernel
theorem dX0_manyBefore_2 : decode cX0_manyBefore 2 = .ok (.iconst 0, 1) := by decide +kernel
theorem dX0_manyBefore_3 : decode cX0_manyBefore 3 = .ok (.istore 4, 2) := by decide +kernel
theorem dX0_manyBefore_5 : decode cX0_manyBefore 5 = .ok (.iload 4, 2) := by decide +kernel
theorem dX0_manyBefore_7 : decode cX0_manyBefore 7 = .ok (.aload_n 0, 1) := by decide +kernel
theorem dX0_manyBefore_8 : decode cX0_manyBefore 8 = .ok (.getfield 33, 3) := by decide +kernel
theorem dX0_manyBefore_11 : decode cX0_manyBefore 11 = .ok (.if_icmp .ge 44, 3) := by decide +kernel
theorem dX0_manyBefore_14 : decode cX0_manyBefore 14 = .ok (.aload_n 0, 1) := by decide +kernel
theorem dX0_manyBefore_15 : decode cX0_manyBefore 15 = .ok (.iload_n 1, 1) := by decide +kernel
theorem dX0_manyBefore_16 : decode cX0_manyBefore 16 = .ok (.iload 4, 2) := by decide +kernel
theorem dX0_manyBefore_18 : decode cX0_manyBefore 18 = .ok (.invokestatic 57, 3) := by decide +kernel
theorem dX0_manyBefore_21 : decode cX0_manyBefore 21 = .ok (.aload_n 0, 1) := by decide +kernel
theorem dX0_manyBefore_22 : decode cX0_manyBefore 22 = .ok (.iload_n 1, 1) := by decide +kernel
theorem dX0_manyBefore_23 : decode cX0_manyBefore 23 = .ok (.iload_n 2, 1) := by decide +kernel
theorem dX0_manyBefore_24 : decode cX0_manyBefore 24 = .ok (.invokestatic 57, 3) := by decide +kernel
theorem dX0_manyBefore_27 : decode cX0_manyBefore 27 = .ok (.isub, 1) := by decide +kernel
theorem dX0_manyBefore_28 : decode cX0_manyBefore 28 = .ok (.istore 5, 2) := by decide +kernel
theorem dX0_manyBefore_30 : decode cX0_manyBefore 30 = .ok (.iload 5, 2) := by decide +kernel
theorem dX0_manyBefore_32 : decode cX0_manyBefore 32 = .ok (.ifCond .lt 14, 3) := by decide +kernel
theorem dX0_manyBefore_35 : decode cX0_manyBefore 35 = .ok (.iload 5, 2) := by decide +kernel
theorem dX0_manyBefore_37 : decode cX0_manyBefore 37 = .ok (.ifCond .ne 12, 3) := by decide +kernel
theorem dX0_manyBefore_40 : decode cX0_manyBefore 40 = .ok (.iload 4, 2) := by decide +kernel
theorem dX0_manyBefore_42 : decode cX0_manyBefore 42 = .ok (.iload_n 2, 1) := by decide +kernel
theorem dX0_manyBefore_43 : decode cX0_manyBefore 43 = .ok (.if_icmp .ge 6, 3) := by decide +kernel
theorem dX0_manyBefore_46 : decode cX0_manyBefore 46 = .ok (.iinc 3 1, 3) := by decide +kernel
theorem dX0_manyBefore_49 : decode cX0_manyBefore 49 = .ok (.iinc 4 1, 3) := by decide +kernel
theorem dX0_manyBefore_52 : decode cX0_manyBefore 52 = .ok (.goto (-47), 3) := by decide +kernel
theorem dX0_manyBefore_55 : decode cX0_manyBefore 55 = .ok (.iload_n 3, 1) := by decide +kernel
theorem dX0_manyBefore_56 : decode cX0_manyBefore 56 = .ok (.ireturn, 1) := by decide +kernel
set_option maxRecDepth 20000 in
theorem ggX0_sortKey_X3_sizeOfError : GoodIn wsX0_sortKey wsX3_sizeOfError := goodIn_r _ [7, 8, 9, 10, 11, 12, 13, 14, 6, 15, 16, 17, 18, 19, 20, 21, 22, 23, 24, 25, 26, 27, 28, 29, 30] (by decide +kernel) (by decide +kernel)
set_option maxRecDepth 20000 in
theorem gX0_sortKey_X3_sizeOfError : GoodIn wsX0_sortKey (wsV RX0 63 RX3 yX3_sizeOfError wsX3_sizeOfError) := goodIn_app (goodIn_of _ (by decide +kernel)) ggX0_sortKey_X3_sizeOfError
theorem dX0_sortKey_0 : decode cX0_sortKey 0 = .ok (.iload_n 1, 1) := by decide +kernel
theorem dX0_sortKey_1 : decode cX0_sortKey 1 = .ok (.lookupswitch 42 #[(1, 27), (2, 35)], 27) := by decide +kernel
theorem dX0_sortKey_28 : decode cX0_sortKey 28 = .ok (.aload_n 0, 1) := by decide +kernel
theorem dX0_sortKey_29 : decode cX0_sortKey 29 = .ok (.getfield 60, 3) := by decide +kernel
theorem dX0_sortKey_32 : decode cX0_sortKey 32 = .ok (.iload_n 2, 1) := by decide +kernel
theorem dX0_sortKey_33 : decode cX0_sortKey 33 = .ok (.iaload, 1) := by decide +kernel
theorem dX0_sortKey_34 : decode cX0_sortKey 34 = .ok (.ineg, 1) := by decide +kernel
theorem dX0_sortKey_35 : decode cX0_sortKey 35 = .ok (.ireturn, 1) := by decide +kernel
theorem dX0_sortKey_36 : decode cX0_sortKey 36 = .ok (.aload_n 0, 1) := by decide +kernel
theorem dX0_sortKey_37 : decode cX0_sortKey 37 = .ok (.iload_n 2, 1) := by decide +kernel
theorem dX0_sortKey_38 : decode cX0_sortKey 38 = .ok (.invokevirtual 63, 3) := by decide +kernel
theorem dX0_sortKey_41 : decode cX0_sortKey 41 = .ok (.ineg, 1) := by decide +kernel
theorem dX0_sortKey_42 : decode cX0_sortKey 42 = .ok (.ireturn, 1) := by decide +kernel
theorem dX0_sortKey_43 : decode cX0_sortKey 43 = .ok (.aload_n 0, 1) := by decide +kernel
theorem dX0_sortKey_44 : decode cX0_sortKey 44 = .ok (.getfield 15, 3) := by decide +kernel
theorem dX0_sortKey_47 : decode cX0_sortKey 47 = .ok (.iload_n 2, 1) := by decide +kernel
theorem dX0_sortKey_48 : decode cX0_sortKey 48 = .ok (.iaload, 1) := by decide +kernel
theorem dX0_sortKey_49 : decode cX0_sortKey 49 = .ok (.ireturn, 1) := by decide +kernel
set_option maxRecDepth 20000 in
theorem ggX0_differentLengths_X0_lengthOfRank : GoodIn wsX0_differentLengths wsX0_lengthOfRank := goodIn_r _ [4, 5, 6, 3, 7, 8, 9, 10, 11, 12, 13, 14, 15, 16, 17, 18, 19, 20, 21, 22, 23, 24, 25, 26, 27, 28] (by decide +kernel) (by decide +kernel)
set_option maxRecDepth 20000 in
theorem gX0_differentLengths_X0_lengthOfRank : GoodIn wsX0_differentLengths (va_wsS RX0 66 yX0_lengthOfRank wsX0_lengthOfRank) := goodIn_app (goodIn_of _ (by decide +kernel)) ggX0_differentLengths_X0_lengthOfRank
theorem dX0_differentLengths_0 : decode cX0_differentLengths 0 = .ok (.iconst 0, 1) := by decide +kernel
theorem dX0_differentLengths_1 : decode cX0_differentLengths 1 = .ok (.istore_n 1, 1) := by decide +kernel
theorem dX0_differentLengths_2 : decode cX0_differentLengths 2 = .ok (.iload_n 1, 1) := by decide +kernel
theorem dX0_differentLengths_3 : decode cX0_differentLengths 3 = .ok (.bipush 20, 2) := by decide +kernel
theorem dX0_differentLengths_5 : decode cX0_differentLengths 5 = .ok (.if_icmp .ge 18, 3) := by decide +kernel
theorem dX0_differentLengths_8 : decode cX0_differentLengths 8 = .ok (.aload_n 0, 1) := by decide +kernel
theorem dX0_differentLengths_9 : decode cX0_differentLengths 9 = .ok (.iload_n 1, 1) := by decide +kernel
theorem dX0_differentLengths_10 : decode cX0_differentLengths 10 = .ok (.invokestatic 66, 3) := by decide +kernel
theorem dX0_differentLengths_13 : decode cX0_differentLengths 13 = .ok (.iconst (-1), 1) := by decide +kernel
theorem dX0_differentLengths_14 : decode cX0_differentLengths 14 = .ok (.if_icmp .eq 9, 3) := by decide +kernel
theorem dX0_differentLengths_17 : decode cX0_differentLengths 17 = .ok (.iinc 1 1, 3) := by decide +kernel
theorem dX0_differentLengths_20 : decode cX0_differentLengths 20 = .ok (.goto (-18), 3) := by decide +kernel
theorem dX0_differentLengths_23 : decode cX0_differentLengths 23 = .ok (.iload_n 1, 1) := by decide +kernel
theorem dX0_differentLengths_24 : decode cX0_differentLengths 24 = .ok (.ireturn, 1) := by decide +kernel
set_option maxRecDepth 20000 in
theorem ggX0_lengthOfRank_X0_shortestAbove : GoodIn wsX0_lengthOfRank wsX0_shortestAbove := goodIn_r _ [4, 5, 6, 7, 8, 9, 10, 11, 12, 13, 14, 15, 16, 17, 18, 19, 20, 21, 22, 23, 24, 25] (by decide +kernel) (by decide +kernel)
set_option maxRecDepth 20000 in
theorem gX0_lengthOfRank_X0_shortestAbove : GoodIn wsX0_lengthOfRank (va_wsS RX0 70 yX0_shortestAbove wsX0_shortestAbove) := goodIn_app (goodIn_of _ (by decide +kernel)) ggX0_lengthOfRank_X0_shortestAbove
theorem dX0_lengthOfRank_0 : decode cX0_lengthOfRank 0 = .ok (.iload_n 1, 1) := by decide +kernel
theorem dX0_lengthOfRank_1 : decode cX0_lengthOfRank 1 = .ok (.bipush 20, 2) := by decide +kernel
theorem dX0_lengthOfRank_3 : decode cX0_lengthOfRank 3 = .ok (.if_icmp .lt 5, 3) := by decide +kernel
theorem dX0_lengthOfRank_6 : decode cX0_lengthOfRank 6 = .ok (.iconst (-1), 1) := by decide +kernel
theorem dX0_lengthOfRank_7 : decode cX0_lengthOfRank 7 = .ok (.ireturn, 1) := by decide +kernel
theorem dX0_lengthOfRank_8 : decode cX0_lengthOfRank 8 = .ok (.iconst 0, 1) := by decide +kernel
theorem dX0_lengthOfRank_9 : decode cX0_lengthOfRank 9 = .ok (.istore_n 2, 1) := by decide +kernel
theorem dX0_lengthOfRank_10 : decode cX0_lengthOfRank 10 = .ok (.iconst 0, 1) := by decide +kernel
theorem dX0_lengthOfRank_11 : decode cX0_lengthOfRank 11 = .ok (.istore_n 3, 1) := by decide +kernel
theorem dX0_lengthOfRank_12 : decode cX0_lengthOfRank 12 = .ok (.iload_n 3, 1) := by decide +kernel
theorem dX0_lengthOfRank_13 : decode cX0_lengthOfRank 13 = .ok (.iload_n 1, 1) := by decide +kernel
theorem dX0_lengthOfRank_14 : decode cX0_lengthOfRank 14 = .ok (.if_icmp .gt 20, 3) := by decide +kernel
theorem dX0_lengthOfRank_17 : decode cX0_lengthOfRank 17 = .ok (.iload_n 2, 1) := by decide +kernel
theorem dX0_lengthOfRank_18 : decode cX0_lengthOfRank 18 = .ok (.iconst (-1), 1) := by decide +kernel
theorem dX0_lengthOfRank_19 : decode cX0_lengthOfRank 19 = .ok (.if_icmp .eq 15, 3) := by decide +kernel
theorem dX0_lengthOfRank_22 : decode cX0_lengthOfRank 22 = .ok (.aload_n 0, 1) := by decide +kernel
theorem dX0_lengthOfRank_23 : decode cX0_lengthOfRank 23 = .ok (.iload_n 2, 1) := by decide +kernel
theorem dX0_lengthOfRank_24 : decode cX0_lengthOfRank 24 = .ok (.invokestatic 70, 3) := by decide +kernel
theorem dX0_lengthOfRank_27 : decode cX0_lengthOfRank 27 = .ok (.istore_n 2, 1) := by decide +kernel
theorem dX0_lengthOfRank_28 : decode cX0_lengthOfRank 28 = .ok (.iinc 3 1, 3) := by decide +kernel
theorem dX0_lengthOfRank_31 : decode cX0_lengthOfRank 31 = .ok (.goto (-19), 3) := by decide +kernel
theorem dX0_lengthOfRank_34 : decode cX0_lengthOfRank 34 = .ok (.iload_n 2, 1) := by decide +kernel
theorem dX0_lengthOfRank_35 : decode cX0_lengthOfRank 35 = .ok (.ireturn, 1) := by decide +kernel
set_option maxRecDepth 20000 in
theorem ggX0_shortestAbove_X3_isFree : GoodIn wsX0_shortestAbove wsX3_isFree := goodIn_r _ [7, 8, 9, 10, 11, 12, 13, 14, 15, 16, 17, 18, 19, 20, 21] (by decide +kernel) (by decide +kernel)
set_option maxRecDepth 20000 in
theorem gX0_shortestAbove_X3_isFree : GoodIn wsX0_shortestAbove (wsV RX0 37 RX3 yX3_isFree wsX3_isFree) := goodIn_app (goodIn_of _ (by decide +kernel)) ggX0_shortestAbove_X3_isFree
theorem dX0_shortestAbove_0 : decode cX0_shortestAbove 0 = .ok (.iconst (-1), 1) := by decide +kernel
theorem dX0_shortestAbove_1 : decode cX0_shortestAbove 1 = .ok (.istore_n 2, 1) := by decide +kernel
theorem dX0_shortestAbove_2 : decode cX0_shortestAbove 2 = .ok (.iconst 0, 1) := by decide +kernel
theorem dX0_shortestAbove_3 : decode cX0_shortestAbove 3 = .ok (.istore_n 3, 1) := by decide +kernel
theorem dX0_shortestAbove_4 : decode cX0_shortestAbove 4 = .ok (.iload_n 3, 1) := by decide +kernel
theorem dX0_shortestAbove_5 : decode cX0_shortestAbove 5 = .ok (.aload_n 0, 1) := by decide +kernel
theorem dX0_shortestAbove_6 : decode cX0_shortestAbove 6 = .ok (.getfield 33, 3) := by decide +kernel
theorem dX0_shortestAbove_9 : decode cX0_shortestAbove 9 = .ok (.if_icmp .ge 45, 3) := by decide +kernel
theorem dX0_shortestAbove_12 : decode cX0_shortestAbove 12 = .ok (.aload_n 0, 1) := by decide +kernel
theorem dX0_shortestAbove_13 : decode cX0_shortestAbove 13 = .ok (.getfield 15, 3) := by decide +kernel
theorem dX0_shortestAbove_16 : decode cX0_shortestAbove 16 = .ok (.iload_n 3, 1) := by decide +kernel
theorem dX0_shortestAbove_17 : decode cX0_shortestAbove 17 = .ok (.iaload, 1) := by decide +kernel
theorem dX0_shortestAbove_18 : decode cX0_shortestAbove 18 = .ok (.istore 4, 2) := by decide +kernel
theorem dX0_shortestAbove_20 : decode cX0_shortestAbove 20 = .ok (.aload_n 0, 1) := by decide +kernel
theorem dX0_shortestAbove_21 : decode cX0_shortestAbove 21 = .ok (.iload_n 3, 1) := by decide +kernel
theorem dX0_shortestAbove_22 : decode cX0_shortestAbove 22 = .ok (.invokevirtual 37, 3) := by decide +kernel
theorem dX0_shortestAbove_25 : decode cX0_shortestAbove 25 = .ok (.ifCond .eq 23, 3) := by decide +kernel
theorem dX0_shortestAbove_28 : decode cX0_shortestAbove 28 = .ok (.iload 4, 2) := by decide +kernel
theorem dX0_shortestAbove_30 : decode cX0_shortestAbove 30 = .ok (.iload_n 1, 1) := by decide +kernel
theorem dX0_shortestAbove_31 : decode cX0_shortestAbove 31 = .ok (.if_icmp .le 17, 3) := by decide +kernel
theorem dX0_shortestAbove_34 : decode cX0_shortestAbove 34 = .ok (.iload_n 2, 1) := by decide +kernel
theorem dX0_shortestAbove_35 : decode cX0_shortestAbove 35 = .ok (.iconst (-1), 1) := by decide +kernel
theorem dX0_shortestAbove_36 : decode cX0_shortestAbove 36 = .ok (.if_icmp .eq 9, 3) := by decide +kernel
theorem dX0_shortestAbove_39 : decode cX0_shortestAbove 39 = .ok (.iload 4, 2) := by decide +kernel
theorem dX0_shortestAbove_41 : decode cX0_shortestAbove 41 = .ok (.iload_n 2, 1) := by decide +kernel
theorem dX0_shortestAbove_42 : decode cX0_shortestAbove 42 = .ok (.if_icmp .ge 6, 3) := by decide +kernel
theorem dX0_shortestAbove_45 : decode cX0_shortestAbove 45 = .ok (.iload 4, 2) := by decide +kernel
theorem dX0_shortestAbove_47 : decode cX0_shortestAbove 47 = .ok (.istore_n 2, 1) := by decide +kernel
theorem dX0_shortestAbove_48 : decode cX0_shortestAbove 48 = .ok (.iinc 3 1, 3) := by decide +kernel
theorem dX0_shortestAbove_51 : decode cX0_shortestAbove 51 = .ok (.goto (-47), 3) := by decide +kernel
theorem dX0_shortestAbove_54 : decode cX0_shortestAbove 54 = .ok (.iload_n 2, 1) := by decide +kernel
theorem dX0_shortestAbove_55 : decode cX0_shortestAbove 55 = .ok (.ireturn, 1) := by decide +kernel
theorem dX1_init_0 : decode cX1_init 0 = .ok (.aload_n 0, 1) := by decide +kernel
theorem dX1_init_1 : decode cX1_init 1 = .ok (.invokespecial 3, 3) := by decide +kernel
theorem dX1_init_4 : decode cX1_init 4 = .ok (.aload_n 0, 1) := by decide +kernel
theorem dX1_init_5 : decode cX1_init 5 = .ok (.bipush 60, 2) := by decide +kernel
theorem dX1_init_7 : decode cX1_init 7 = .ok (.newarray .int, 2) := by decide +kernel
theorem dX1_init_9 : decode cX1_init 9 = .ok (.putfield 9, 3) := by decide +kernel
theorem dX1_init_12 : decode cX1_init 12 = .ok (.return_, 1) := by decide +kernel
set_option maxRecDepth 20000 in
theorem ggX2_init_X3_init : GoodIn wsX2_init wsX3_init := goodIn_r _ [9, 10, 2, 3, 11, 12, 13, 14, 15, 16, 17, 18, 19, 20, 21, 22, 23, 24, 25, 28, 29, 30, 31, 32, 33, 34, 35, 36, 37, 38, 39, 40] (by decide +kernel) (by decide +kernel)
set_option maxRecDepth 20000 in
theorem gX2_init_X3_init_n17 : GoodIn wsX2_init (wsX3_init) := ggX2_init_X3_init
theorem dX2_init_0 : decode cX2_init 0 = .ok (.aload_n 0, 1) := by decide +kernel
theorem dX2_init_1 : decode cX2_init 1 = .ok (.invokespecial 3, 3) := by decide +kernel
theorem dX2_init_4 : decode cX2_init 4 = .ok (.aload_n 0, 1) := by decide +kernel
theorem dX2_init_5 : decode cX2_init 5 = .ok (.bipush 6, 2) := by decide +kernel
theorem dX2_init_7 : decode cX2_init 7 = .ok (.anewarray 9, 3) := by decide +kernel
theorem dX2_init_10 : decode cX2_init 10 = .ok (.putfield 11, 3) := by decide +kernel
theorem dX2_init_13 : decode cX2_init 13 = .ok (.iconst 0, 1) := by decide +kernel
theorem dX2_init_14 : decode cX2_init 14 = .ok (.istore_n 1, 1) := by decide +kernel
theorem dX2_init_15 : decode cX2_init 15 = .ok (.iload_n 1, 1) := by decide +kernel
theorem dX2_init_16 : decode cX2_init 16 = .ok (.bipush 6, 2) := by decide +kernel
theorem dX2_init_18 : decode cX2_init 18 = .ok (.if_icmp .ge 22, 3) := by decide +kernel
theorem dX2_init_21 : decode cX2_init 21 = .ok (.aload_n 0, 1) := by decide +kernel
theorem dX2_init_22 : decode cX2_init 22 = .ok (.getfield 11, 3) := by decide +kernel
theorem dX2_init_25 : decode cX2_init 25 = .ok (.iload_n 1, 1) := by decide +kernel
theorem dX2_init_26 : decode cX2_init 26 = .ok (.new 9, 3) := by decide +kernel
theorem dX2_init_29 : decode cX2_init 29 = .ok (.dup, 1) := by decide +kernel
theorem dX2_init_30 : decode cX2_init 30 = .ok (.invokespecial 17, 3) := by decide +kernel
theorem dX2_init_33 : decode cX2_init 33 = .ok (.aastore, 1) := by decide +kernel
theorem dX2_init_34 : decode cX2_init 34 = .ok (.iinc 1 1, 3) := by decide +kernel
theorem dX2_init_37 : decode cX2_init 37 = .ok (.goto (-22), 3) := by decide +kernel
theorem dX2_init_40 : decode cX2_init 40 = .ok (.return_, 1) := by decide +kernel
set_option maxRecDepth 20000 in
theorem ggX2_push_X2_dropOldest : GoodIn wsX2_push wsX2_dropOldest := goodIn_r _ [7, 2, 1, 30, 31] (by decide +kernel) (by decide +kernel)
set_option maxRecDepth 20000 in
theorem gX2_push_X2_dropOldest : GoodIn wsX2_push (wsV RX2 22 RX2 yX2_dropOldest wsX2_dropOldest) := goodIn_app (goodIn_of _ (by decide +kernel)) ggX2_push_X2_dropOldest
set_option maxRecDepth 20000 in
theorem ggX2_push_X3_copyFrom : GoodIn wsX2_push wsX3_copyFrom := goodIn_r _ [12, 13, 14, 15, 16, 17, 18, 19, 20, 21, 22, 23, 24, 25, 26, 27, 28, 29, 32, 33, 34, 35, 36, 37, 38, 39, 40, 41, 42, 43, 44] (by decide +kernel) (by decide +kernel)
set_option maxRecDepth 20000 in
theorem gX2_push_X3_copyFrom : GoodIn wsX2_push (wsV RX2 25 RX3 yX3_copyFrom wsX3_copyFrom) := goodIn_app (goodIn_of _ (by decide +kernel)) ggX2_push_X3_copyFrom
theorem dX2_push_0 : decode cX2_push 0 = .ok (.aload_n 0, 1) := by decide +kernel
theorem dX2_push_1 : decode cX2_push 1 = .ok (.getfield 18, 3) := by decide +kernel
theorem dX2_push_4 : decode cX2_push 4 = .ok (.bipush 6, 2) := by decide +kernel
theorem dX2_push_6 : decode cX2_push 6 = .ok (.if_icmp .lt 7, 3) := by decide +kernel
theorem dX2_push_9 : decode cX2_push 9 = .ok (.aload_n 0, 1) := by decide +kernel
theorem dX2_push_10 : decode cX2_push 10 = .ok (.invokevirtual 22, 3) := by decide +kernel
theorem dX2_push_13 : decode cX2_push 13 = .ok (.aload_n 0, 1) := by decide +kernel
theorem dX2_push_14 : decode cX2_push 14 = .ok (.getfield 11, 3) := by decide +kernel
theorem dX2_push_17 : decode cX2_push 17 = .ok (.aload_n 0, 1) := by decide +kernel
theorem dX2_push_18 : decode cX2_push 18 = .ok (.getfield 18, 3) := by decide +kernel
theorem dX2_push_21 : decode cX2_push 21 = .ok (.aaload, 1) := by decide +kernel
theorem dX2_push_22 : decode cX2_push 22 = .ok (.aload_n 1, 1) := by decide +kernel
theorem dX2_push_23 : decode cX2_push 23 = .ok (.invokevirtual 25, 3) := by decide +kernel
theorem dX2_push_26 : decode cX2_push 26 = .ok (.aload_n 0, 1) := by decide +kernel
theorem dX2_push_27 : decode cX2_push 27 = .ok (.dup, 1) := by decide +kernel
theorem dX2_push_28 : decode cX2_push 28 = .ok (.getfield 18, 3) := by decide +kernel
theorem dX2_push_31 : decode cX2_push 31 = .ok (.iconst 1, 1) := by decide +kernel
theorem dX2_push_32 : decode cX2_push 32 = .ok (.iadd, 1) := by decide +kernel
theorem dX2_push_33 : decode cX2_push 33 = .ok (.putfield 18, 3) := by decide +kernel
theorem dX2_push_36 : decode cX2_push 36 = .ok (.return_, 1) := by decide +kernel
theorem dX2_dropOldest_0 : decode cX2_dropOldest 0 = .ok (.aload_n 0, 1) := by decide +kernel
theorem dX2_dropOldest_1 : decode cX2_dropOldest 1 = .ok (.getfield 11, 3) := by decide +kernel
theorem dX2_dropOldest_4 : decode cX2_dropOldest 4 = .ok (.iconst 0, 1) := by decide +kernel
theorem dX2_dropOldest_5 : decode cX2_dropOldest 5 = .ok (.aaload, 1) := by decide +kernel
theorem dX2_dropOldest_6 : decode cX2_dropOldest 6 = .ok (.astore_n 1, 1) := by decide +kernel
theorem dX2_dropOldest_7 : decode cX2_dropOldest 7 = .ok (.iconst 1, 1) := by decide +kernel
theorem dX2_dropOldest_8 : decode cX2_dropOldest 8 = .ok (.istore_n 2, 1) := by decide +kernel
theorem dX2_dropOldest_9 : decode cX2_dropOldest 9 = .ok (.iload_n 2, 1) := by decide +kernel
theorem dX2_dropOldest_10 : decode cX2_dropOldest 10 = .ok (.bipush 6, 2) := by decide +kernel
theorem dX2_dropOldest_12 : decode cX2_dropOldest 12 = .ok (.if_icmp .ge 23, 3) := by decide +kernel
theorem dX2_dropOldest_15 : decode cX2_dropOldest 15 = .ok (.aload_n 0, 1) := by decide +kernel
theorem dX2_dropOldest_16 : decode cX2_dropOldest 16 = .ok (.getfield 11, 3) := by decide +kernel
theorem dX2_dropOldest_19 : decode cX2_dropOldest 19 = .ok (.iload_n 2, 1) := by decide +kernel
theorem dX2_dropOldest_20 : decode cX2_dropOldest 20 = .ok (.iconst 1, 1) := by decide +kernel
theorem dX2_dropOldest_21 : decode cX2_dropOldest 21 = .ok (.isub, 1) := by decide +kernel
theorem dX2_dropOldest_22 : decode cX2_dropOldest 22 = .ok (.aload_n 0, 1) := by decide +kernel
theorem dX2_dropOldest_23 : decode cX2_dropOldest 23 = .ok (.getfield 11, 3) := by decide +kernel
theorem dX2_dropOldest_26 : decode cX2_dropOldest 26 = .ok (.iload_n 2, 1) := by decide +kernel
theorem dX2_dropOldest_27 : decode cX2_dropOldest 27 = .ok (.aaload, 1) := by decide +kernel
theorem dX2_dropOldest_28 : decode cX2_dropOldest 28 = .ok (.aastore, 1) := by decide +kernel
theorem dX2_dropOldest_29 : decode cX2_dropOldest 29 = .ok (.iinc 2 1, 3) := by decide +kernel
theorem dX2_dropOldest_32 : decode cX2_dropOldest 32 = .ok (.goto (-23), 3) := by decide +kernel
theorem dX2_dropOldest_35 : decode cX2_dropOldest 35 = .ok (.aload_n 0, 1) := by decide +kernel
theorem dX2_dropOldest_36 : decode cX2_dropOldest 36 = .ok (.getfield 11, 3) := by decide +kernel
theorem dX2_dropOldest_39 : decode cX2_dropOldest 39 = .ok (.iconst 5, 1) := by decide +kernel
theorem dX2_dropOldest_40 : decode cX2_dropOldest 40 = .ok (.aload_n 1, 1) := by decide +kernel
theorem dX2_dropOldest_41 : decode cX2_dropOldest 41 = .ok (.aastore, 1) := by decide +kernel
theorem dX2_dropOldest_42 : decode cX2_dropOldest 42 = .ok (.aload_n 0, 1) := by decide +kernel
theorem dX2_dropOldest_43 : decode cX2_dropOldest 43 = .ok (.iconst 5, 1) := by decide +kernel
theorem dX2_dropOldest_44 : decode cX2_dropOldest 44 = .ok (.putfield 18, 3) := by decide +kernel
theorem dX2_dropOldest_47 : decode cX2_dropOldest 47 = .ok (.return_, 1) := by decide +kernel
theorem dX3_init_0 : decode cX3_init 0 = .ok (.aload_n 0, 1) := by decide +kernel
theorem dX3_init_1 : decode cX3_init 1 = .ok (.invokespecial 3, 3) := by decide +kernel
theorem dX3_init_4 : decode cX3_init 4 = .ok (.aload_n 0, 1) := by decide +kernel
theorem dX3_init_5 : decode cX3_init 5 = .ok (.bipush 20, 2) := by decide +kernel
theorem dX3_init_7 : decode cX3_init 7 = .ok (.newarray .int, 2) := by decide +kernel
theorem dX3_init_9 : decode cX3_init 9 = .ok (.putfield 9, 3) := by decide +kernel
theorem dX3_init_12 : decode cX3_init 12 = .ok (.aload_n 0, 1) := by decide +kernel
theorem dX3_init_13 : decode cX3_init 13 = .ok (.bipush 20, 2) := by decide +kernel
theorem dX3_init_15 : decode cX3_init 15 = .ok (.newarray .int, 2) := by decide +kernel
theorem dX3_init_17 : decode cX3_init 17 = .ok (.putfield 15, 3) := by decide +kernel
theorem dX3_init_20 : decode cX3_init 20 = .ok (.aload_n 0, 1) := by decide +kernel
theorem dX3_init_21 : decode cX3_init 21 = .ok (.bipush 20, 2) := by decide +kernel
theorem dX3_init_23 : decode cX3_init 23 = .ok (.newarray .int, 2) := by decide +kernel
theorem dX3_init_25 : decode cX3_init 25 = .ok (.putfield 18, 3) := by decide +kernel
theorem dX3_init_28 : decode cX3_init 28 = .ok (.aload_n 0, 1) := by decide +kernel
theorem dX3_init_29 : decode cX3_init 29 = .ok (.bipush 20, 2) := by decide +kernel
theorem dX3_init_31 : decode cX3_init 31 = .ok (.newarray .int, 2) := by decide +kernel
theorem dX3_init_33 : decode cX3_init 33 = .ok (.putfield 21, 3) := by decide +kernel
theorem dX3_init_36 : decode cX3_init 36 = .ok (.aload_n 0, 1) := by decide +kernel
theorem dX3_init_37 : decode cX3_init 37 = .ok (.bipush 20, 2) := by decide +kernel
theorem dX3_init_39 : decode cX3_init 39 = .ok (.newarray .int, 2) := by decide +kernel
theorem dX3_init_41 : decode cX3_init 41 = .ok (.putfield 24, 3) := by decide +kernel
theorem dX3_init_44 : decode cX3_init 44 = .ok (.aload_n 0, 1) := by decide +kernel
theorem dX3_init_45 : decode cX3_init 45 = .ok (.bipush 20, 2) := by decide +kernel
theorem dX3_init_47 : decode cX3_init 47 = .ok (.newarray .int, 2) := by decide +kernel
theorem dX3_init_49 : decode cX3_init 49 = .ok (.putfield 27, 3) := by decide +kernel
theorem dX3_init_52 : decode cX3_init 52 = .ok (.aload_n 0, 1) := by decide +kernel
theorem dX3_init_53 : decode cX3_init 53 = .ok (.bipush 20, 2) := by decide +kernel
theorem dX3_init_55 : decode cX3_init 55 = .ok (.newarray .int, 2) := by decide +kernel
theorem dX3_init_57 : decode cX3_init 57 = .ok (.putfield 30, 3) := by decide +kernel
theorem dX3_init_60 : decode cX3_init 60 = .ok (.aload_n 0, 1) := by decide +kernel
theorem dX3_init_61 : decode cX3_init 61 = .ok (.getstatic 33, 3) := by decide +kernel
theorem dX3_init_64 : decode cX3_init 64 = .ok (.invokevirtual 36, 3) := by decide +kernel
theorem dX3_init_67 : decode cX3_init 67 = .ok (.checkcast 37, 3) := by decide +kernel
theorem dX3_init_70 : decode cX3_init 70 = .ok (.putfield 41, 3) := by decide +kernel
theorem dX3_init_73 : decode cX3_init 73 = .ok (.return_, 1) := by decide +kernel
theorem dX3_copyFrom_0 : decode cX3_copyFrom 0 = .ok (.aload_n 1, 1) := by decide +kernel
theorem dX3_copyFrom_1 : decode cX3_copyFrom 1 = .ok (.getfield 9, 3) := by decide +kernel
theorem dX3_copyFrom_4 : decode cX3_copyFrom 4 = .ok (.iconst 0, 1) := by decide +kernel
theorem dX3_copyFrom_5 : decode cX3_copyFrom 5 = .ok (.aload_n 0, 1) := by decide +kernel
theorem dX3_copyFrom_6 : decode cX3_copyFrom 6 = .ok (.getfield 9, 3) := by decide +kernel
theorem dX3_copyFrom_9 : decode cX3_copyFrom 9 = .ok (.iconst 0, 1) := by decide +kernel
theorem dX3_copyFrom_10 : decode cX3_copyFrom 10 = .ok (.bipush 20, 2) := by decide +kernel
theorem dX3_copyFrom_12 : decode cX3_copyFrom 12 = .ok (.invokestatic 44, 3) := by decide +kernel
theorem dX3_copyFrom_15 : decode cX3_copyFrom 15 = .ok (.aload_n 1, 1) := by decide +kernel
theorem dX3_copyFrom_16 : decode cX3_copyFrom 16 = .ok (.getfield 15, 3) := by decide +kernel
theorem dX3_copyFrom_19 : decode cX3_copyFrom 19 = .ok (.iconst 0, 1) := by decide +kernel
theorem dX3_copyFrom_20 : decode cX3_copyFrom 20 = .ok (.aload_n 0, 1) := by decide +kernel
theorem dX3_copyFrom_21 : decode cX3_copyFrom 21 = .ok (.getfield 15, 3) := by decide +kernel
theorem dX3_copyFrom_24 : decode cX3_copyFrom 24 = .ok (.iconst 0, 1) := by decide +kernel
theorem dX3_copyFrom_25 : decode cX3_copyFrom 25 = .ok (.bipush 20, 2) := by decide +kernel
theorem dX3_copyFrom_27 : decode cX3_copyFrom 27 = .ok (.invokestatic 44, 3) := by decide +kernel
theorem dX3_copyFrom_30 : decode cX3_copyFrom 30 = .ok (.aload_n 1, 1) := by decide +kernel
theorem dX3_copyFrom_31 : decode cX3_copyFrom 31 = .ok (.getfield 18, 3) := by decide +kernel
theorem dX3_copyFrom_34 : decode cX3_copyFrom 34 = .ok (.iconst 0, 1) := by decide +kernel
theorem dX3_copyFrom_35 : decode cX3_copyFrom 35 = .ok (.aload_n 0, 1) := by decide +kernel
theorem dX3_copyFrom_36 : decode cX3_copyFrom 36 = .ok (.getfield 18, 3) := by decide +kernel
theorem dX3_copyFrom_39 : decode cX3_copyFrom 39 = .ok (.iconst 0, 1) := by decide +kernel
theorem dX3_copyFrom_40 : decode cX3_copyFrom 40 = .ok (.bipush 20, 2) := by decide +kernel
theorem dX3_copyFrom_42 : decode cX3_copyFrom 42 = .ok (.invokestatic 44, 3) := by decide +kernel
theorem dX3_copyFrom_45 : decode cX3_copyFrom 45 = .ok (.aload_n 1, 1) := by decide +kernel
theorem dX3_copyFrom_46 : decode cX3_copyFrom 46 = .ok (.getfield 21, 3) := by decide +kernel
theorem dX3_copyFrom_49 : decode cX3_copyFrom 49 = .ok (.iconst 0, 1) := by decide +kernel
theorem dX3_copyFrom_50 : decode cX3_copyFrom 50 = .ok (.aload_n 0, 1) := by decide +kernel
theorem dX3_copyFrom_51 : decode cX3_copyFrom 51 = .ok (.getfield 21, 3) := by decide +kernel
theorem dX3_copyFrom_54 : decode cX3_copyFrom 54 = .ok (.iconst 0, 1) := by decide +kernel
theorem dX3_copyFrom_55 : decode cX3_copyFrom 55 = .ok (.bipush 20, 2) := by decide +kernel
theorem dX3_copyFrom_57 : decode cX3_copyFrom 57 = .ok (.invokestatic 44, 3) := by decide +kernel
theorem dX3_copyFrom_60 : decode cX3_copyFrom 60 = .ok (.aload_n 1, 1) := by decide +kernel
theorem dX3_copyFrom_61 : decode cX3_copyFrom 61 = .ok (.getfield 24, 3) := by decide +kernel
theorem dX3_copyFrom_64 : decode cX3_copyFrom 64 = .ok (.iconst 0, 1) := by decide +kernel
theorem dX3_copyFrom_65 : decode cX3_copyFrom 65 = .ok (.aload_n 0, 1) := by decide +kernel
theorem dX3_copyFrom_66 : decode cX3_copyFrom 66 = .ok (.getfield 24, 3) := by decide +kernel
theorem dX3_copyFrom_69 : decode cX3_copyFrom 69 = .ok (.iconst 0, 1) := by decide +kernel
theorem dX3_copyFrom_70 : decode cX3_copyFrom 70 = .ok (.bipush 20, 2) := by decide +kernel
theorem dX3_copyFrom_72 : decode cX3_copyFrom 72 = .ok (.invokestatic 44, 3) := by decide +kernel
theorem dX3_copyFrom_75 : decode cX3_copyFrom 75 = .ok (.aload_n 1, 1) := by decide +kernel
theorem dX3_copyFrom_76 : decode cX3_copyFrom 76 = .ok (.getfield 27, 3) := by decide +kernel
theorem dX3_copyFrom_79 : decode cX3_copyFrom 79 = .ok (.iconst 0, 1) := by decide +kernel
theorem dX3_copyFrom_80 : decode cX3_copyFrom 80 = .ok (.aload_n 0, 1) := by decide +kernel
theorem dX3_copyFrom_81 : decode cX3_copyFrom 81 = .ok (.getfield 27, 3) := by decide +kernel
theorem dX3_copyFrom_84 : decode cX3_copyFrom 84 = .ok (.iconst 0, 1) := by decide +kernel
theorem dX3_copyFrom_85 : decode cX3_copyFrom 85 = .ok (.bipush 20, 2) := by decide +kernel
theorem dX3_copyFrom_87 : decode cX3_copyFrom 87 = .ok (.invokestatic 44, 3) := by decide +kernel
theorem dX3_copyFrom_90 : decode cX3_copyFrom 90 = .ok (.aload_n 1, 1) := by decide +kernel
theorem dX3_copyFrom_91 : decode cX3_copyFrom 91 = .ok (.getfield 30, 3) := by decide +kernel
theorem dX3_copyFrom_94 : decode cX3_copyFrom 94 = .ok (.iconst 0, 1) := by decide +kernel
theorem dX3_copyFrom_95 : decode cX3_copyFrom 95 = .ok (.aload_n 0, 1) := by decide +kernel
theorem dX3_copyFrom_96 : decode cX3_copyFrom 96 = .ok (.getfield 30, 3) := by decide +kernel
theorem dX3_copyFrom_99 : decode cX3_copyFrom 99 = .ok (.iconst 0, 1) := by decide +kernel
theorem dX3_copyFrom_100 : decode cX3_copyFrom 100 = .ok (.bipush 20, 2) := by decide +kernel
theorem dX3_copyFrom_102 : decode cX3_copyFrom 102 = .ok (.invokestatic 44, 3) := by decide +kernel
theorem dX3_copyFrom_105 : decode cX3_copyFrom 105 = .ok (.aload_n 1, 1) := by decide +kernel
theorem dX3_copyFrom_106 : decode cX3_copyFrom 106 = .ok (.getfield 41, 3) := by decide +kernel
theorem dX3_copyFrom_109 : decode cX3_copyFrom 109 = .ok (.iconst 0, 1) := by decide +kernel
theorem dX3_copyFrom_110 : decode cX3_copyFrom 110 = .ok (.aload_n 0, 1) := by decide +kernel
theorem dX3_copyFrom_111 : decode cX3_copyFrom 111 = .ok (.getfield 41, 3) := by decide +kernel
theorem dX3_copyFrom_114 : decode cX3_copyFrom 114 = .ok (.iconst 0, 1) := by decide +kernel
theorem dX3_copyFrom_115 : decode cX3_copyFrom 115 = .ok (.iconst 4, 1) := by decide +kernel
theorem dX3_copyFrom_116 : decode cX3_copyFrom 116 = .ok (.invokestatic 44, 3) := by decide +kernel
theorem dX3_copyFrom_119 : decode cX3_copyFrom 119 = .ok (.aload_n 0, 1) := by decide +kernel
theorem dX3_copyFrom_120 : decode cX3_copyFrom 120 = .ok (.aload_n 1, 1) := by decide +kernel
theorem dX3_copyFrom_121 : decode cX3_copyFrom 121 = .ok (.getfield 50, 3) := by decide +kernel
theorem dX3_copyFrom_124 : decode cX3_copyFrom 124 = .ok (.putfield 50, 3) := by decide +kernel
theorem dX3_copyFrom_127 : decode cX3_copyFrom 127 = .ok (.aload_n 0, 1) := by decide +kernel
theorem dX3_copyFrom_128 : decode cX3_copyFrom 128 = .ok (.aload_n 1, 1) := by decide +kernel
theorem dX3_copyFrom_129 : decode cX3_copyFrom 129 = .ok (.getfield 54, 3) := by decide +kernel
theorem dX3_copyFrom_132 : decode cX3_copyFrom 132 = .ok (.putfield 54, 3) := by decide +kernel
theorem dX3_copyFrom_135 : decode cX3_copyFrom 135 = .ok (.aload_n 0, 1) := by decide +kernel
theorem dX3_copyFrom_136 : decode cX3_copyFrom 136 = .ok (.aload_n 1, 1) := by decide +kernel
theorem dX3_copyFrom_137 : decode cX3_copyFrom 137 = .ok (.getfield 57, 3) := by decide +kernel
theorem dX3_copyFrom_140 : decode cX3_copyFrom 140 = .ok (.putfield 57, 3) := by decide +kernel
theorem dX3_copyFrom_143 : decode cX3_copyFrom 143 = .ok (.aload_n 0, 1) := by decide +kernel
theorem dX3_copyFrom_144 : decode cX3_copyFrom 144 = .ok (.aload_n 1, 1) := by decide +kernel
theorem dX3_copyFrom_145 : decode cX3_copyFrom 145 = .ok (.getfield 60, 3) := by decide +kernel
theorem dX3_copyFrom_148 : decode cX3_copyFrom 148 = .ok (.putfield 60, 3) := by decide +kernel
theorem dX3_copyFrom_151 : decode cX3_copyFrom 151 = .ok (.aload_n 0, 1) := by decide +kernel
theorem dX3_copyFrom_152 : decode cX3_copyFrom 152 = .ok (.aload_n 1, 1) := by decide +kernel
theorem dX3_copyFrom_153 : decode cX3_copyFrom 153 = .ok (.getfield 63, 3) := by decide +kernel
theorem dX3_copyFrom_156 : decode cX3_copyFrom 156 = .ok (.putfield 63, 3) := by decide +kernel
theorem dX3_copyFrom_159 : decode cX3_copyFrom 159 = .ok (.return_, 1) := by decide +kernel
theorem dX3_isFull_0 : decode cX3_isFull 0 = .ok (.aload_n 0, 1) := by decide +kernel
theorem dX3_isFull_1 : decode cX3_isFull 1 = .ok (.getfield 50, 3) := by decide +kernel
theorem dX3_isFull_4 : decode cX3_isFull 4 = .ok (.bipush 20, 2) := by decide +kernel
theorem dX3_isFull_6 : decode cX3_isFull 6 = .ok (.if_icmp .lt 7, 3) := by decide +kernel
theorem dX3_isFull_9 : decode cX3_isFull 9 = .ok (.iconst 1, 1) := by decide +kernel
theorem dX3_isFull_10 : decode cX3_isFull 10 = .ok (.goto 4, 3) := by decide +kernel
theorem dX3_isFull_13 : decode cX3_isFull 13 = .ok (.iconst 0, 1) := by decide +kernel
theorem dX3_isFull_14 : decode cX3_isFull 14 = .ok (.ireturn, 1) := by decide +kernel
theorem dX3_hasBlock_0 : decode cX3_hasBlock 0 = .ok (.iload_n 1, 1) := by decide +kernel
theorem dX3_hasBlock_1 : decode cX3_hasBlock 1 = .ok (.ifCond .lt 15, 3) := by decide +kernel
theorem dX3_hasBlock_4 : decode cX3_hasBlock 4 = .ok (.iload_n 1, 1) := by decide +kernel
theorem dX3_hasBlock_5 : decode cX3_hasBlock 5 = .ok (.aload_n 0, 1) := by decide +kernel
theorem dX3_hasBlock_6 : decode cX3_hasBlock 6 = .ok (.getfield 50, 3) := by decide +kernel
theorem dX3_hasBlock_9 : decode cX3_hasBlock 9 = .ok (.if_icmp .ge 7, 3) := by decide +kernel
theorem dX3_hasBlock_12 : decode cX3_hasBlock 12 = .ok (.iconst 1, 1) := by decide +kernel
theorem dX3_hasBlock_13 : decode cX3_hasBlock 13 = .ok (.goto 4, 3) := by decide +kernel
theorem dX3_hasBlock_16 : decode cX3_hasBlock 16 = .ok (.iconst 0, 1) := by decide +kernel
theorem dX3_hasBlock_17 : decode cX3_hasBlock 17 = .ok (.ireturn, 1) := by decide +kernel
theorem dX3_isFree_0 : decode cX3_isFree 0 = .ok (.aload_n 0, 1) := by decide +kernel
theorem dX3_isFree_1 : decode cX3_isFree 1 = .ok (.getfield 24, 3) := by decide +kernel
theorem dX3_isFree_4 : decode cX3_isFree 4 = .ok (.iload_n 1, 1) := by decide +kernel
theorem dX3_isFree_5 : decode cX3_isFree 5 = .ok (.iaload, 1) := by decide +kernel
theorem dX3_isFree_6 : decode cX3_isFree 6 = .ok (.iconst (-1), 1) := by decide +kernel
theorem dX3_isFree_7 : decode cX3_isFree 7 = .ok (.if_icmp .ne 7, 3) := by decide +kernel
theorem dX3_isFree_10 : decode cX3_isFree 10 = .ok (.iconst 1, 1) := by decide +kernel
theorem dX3_isFree_11 : decode cX3_isFree 11 = .ok (.goto 4, 3) := by decide +kernel
theorem dX3_isFree_14 : decode cX3_isFree 14 = .ok (.iconst 0, 1) := by decide +kernel
theorem dX3_isFree_15 : decode cX3_isFree 15 = .ok (.ireturn, 1) := by decide +kernel
set_option maxRecDepth 20000 in
theorem ggX3_addBlock_X3_isFull : GoodIn wsX3_addBlock wsX3_isFull := goodIn_r _ [13, 1, 14, 15, 16, 17, 18, 19, 20, 21, 22, 23, 24, 25, 26] (by decide +kernel) (by decide +kernel)
set_option maxRecDepth 20000 in
theorem gX3_addBlock_X3_isFull : GoodIn wsX3_addBlock (wsV RX3 66 RX3 yX3_isFull wsX3_isFull) := goodIn_app (goodIn_of _ (by decide +kernel)) ggX3_addBlock_X3_isFull
theorem dX3_addBlock_0 : decode cX3_addBlock 0 = .ok (.aload_n 0, 1) := by decide +kernel
theorem dX3_addBlock_1 : decode cX3_addBlock 1 = .ok (.invokevirtual 66, 3) := by decide +kernel
theorem dX3_addBlock_4 : decode cX3_addBlock 4 = .ok (.ifCond .eq 5, 3) := by decide +kernel
theorem dX3_addBlock_7 : decode cX3_addBlock 7 = .ok (.iconst (-1), 1) := by decide +kernel
theorem dX3_addBlock_8 : decode cX3_addBlock 8 = .ok (.ireturn, 1) := by decide +kernel
theorem dX3_addBlock_9 : decode cX3_addBlock 9 = .ok (.aload_n 0, 1) := by decide +kernel
theorem dX3_addBlock_10 : decode cX3_addBlock 10 = .ok (.getfield 50, 3) := by decide +kernel
theorem dX3_addBlock_13 : decode cX3_addBlock 13 = .ok (.istore_n 3, 1) := by decide +kernel
theorem dX3_addBlock_14 : decode cX3_addBlock 14 = .ok (.aload_n 0, 1) := by decide +kernel
theorem dX3_addBlock_15 : decode cX3_addBlock 15 = .ok (.getfield 9, 3) := by decide +kernel
theorem dX3_addBlock_18 : decode cX3_addBlock 18 = .ok (.iload_n 3, 1) := by decide +kernel
theorem dX3_addBlock_19 : decode cX3_addBlock 19 = .ok (.iload_n 1, 1) := by decide +kernel
theorem dX3_addBlock_20 : decode cX3_addBlock 20 = .ok (.iastore, 1) := by decide +kernel
theorem dX3_addBlock_21 : decode cX3_addBlock 21 = .ok (.aload_n 0, 1) := by decide +kernel
theorem dX3_addBlock_22 : decode cX3_addBlock 22 = .ok (.getfield 15, 3) := by decide +kernel
theorem dX3_addBlock_25 : decode cX3_addBlock 25 = .ok (.iload_n 3, 1) := by decide +kernel
theorem dX3_addBlock_26 : decode cX3_addBlock 26 = .ok (.iload_n 2, 1) := by decide +kernel
theorem dX3_addBlock_27 : decode cX3_addBlock 27 = .ok (.iastore, 1) := by decide +kernel
theorem dX3_addBlock_28 : decode cX3_addBlock 28 = .ok (.aload_n 0, 1) := by decide +kernel
theorem dX3_addBlock_29 : decode cX3_addBlock 29 = .ok (.getfield 18, 3) := by decide +kernel
theorem dX3_addBlock_32 : decode cX3_addBlock 32 = .ok (.iload_n 3, 1) := by decide +kernel
theorem dX3_addBlock_33 : decode cX3_addBlock 33 = .ok (.iconst 0, 1) := by decide +kernel
theorem dX3_addBlock_34 : decode cX3_addBlock 34 = .ok (.iastore, 1) := by decide +kernel
theorem dX3_addBlock_35 : decode cX3_addBlock 35 = .ok (.aload_n 0, 1) := by decide +kernel
theorem dX3_addBlock_36 : decode cX3_addBlock 36 = .ok (.getfield 21, 3) := by decide +kernel
theorem dX3_addBlock_39 : decode cX3_addBlock 39 = .ok (.iload_n 3, 1) := by decide +kernel
theorem dX3_addBlock_40 : decode cX3_addBlock 40 = .ok (.iconst 0, 1) := by decide +kernel
theorem dX3_addBlock_41 : decode cX3_addBlock 41 = .ok (.iastore, 1) := by decide +kernel
theorem dX3_addBlock_42 : decode cX3_addBlock 42 = .ok (.aload_n 0, 1) := by decide +kernel
theorem dX3_addBlock_43 : decode cX3_addBlock 43 = .ok (.getfield 24, 3) := by decide +kernel
theorem dX3_addBlock_46 : decode cX3_addBlock 46 = .ok (.iload_n 3, 1) := by decide +kernel
theorem dX3_addBlock_47 : decode cX3_addBlock 47 = .ok (.iconst (-1), 1) := by decide +kernel
theorem dX3_addBlock_48 : decode cX3_addBlock 48 = .ok (.iastore, 1) := by decide +kernel
theorem dX3_addBlock_49 : decode cX3_addBlock 49 = .ok (.aload_n 0, 1) := by decide +kernel
theorem dX3_addBlock_50 : decode cX3_addBlock 50 = .ok (.getfield 27, 3) := by decide +kernel
theorem dX3_addBlock_53 : decode cX3_addBlock 53 = .ok (.iload_n 3, 1) := by decide +kernel
theorem dX3_addBlock_54 : decode cX3_addBlock 54 = .ok (.iconst (-1), 1) := by decide +kernel
theorem dX3_addBlock_55 : decode cX3_addBlock 55 = .ok (.iastore, 1) := by decide +kernel
theorem dX3_addBlock_56 : decode cX3_addBlock 56 = .ok (.aload_n 0, 1) := by decide +kernel
theorem dX3_addBlock_57 : decode cX3_addBlock 57 = .ok (.getfield 30, 3) := by decide +kernel
theorem dX3_addBlock_60 : decode cX3_addBlock 60 = .ok (.iload_n 3, 1) := by decide +kernel
theorem dX3_addBlock_61 : decode cX3_addBlock 61 = .ok (.iconst 0, 1) := by decide +kernel
theorem dX3_addBlock_62 : decode cX3_addBlock 62 = .ok (.iastore, 1) := by decide +kernel
theorem dX3_addBlock_63 : decode cX3_addBlock 63 = .ok (.aload_n 0, 1) := by decide +kernel
theorem dX3_addBlock_64 : decode cX3_addBlock 64 = .ok (.dup, 1) := by decide +kernel
theorem dX3_addBlock_65 : decode cX3_addBlock 65 = .ok (.getfield 50, 3) := by decide +kernel
theorem dX3_addBlock_68 : decode cX3_addBlock 68 = .ok (.iconst 1, 1) := by decide +kernel
theorem dX3_addBlock_69 : decode cX3_addBlock 69 = .ok (.iadd, 1) := by decide +kernel
theorem dX3_addBlock_70 : decode cX3_addBlock 70 = .ok (.putfield 50, 3) := by decide +kernel
theorem dX3_addBlock_73 : decode cX3_addBlock 73 = .ok (.iload_n 3, 1) := by decide +kernel
theorem dX3_addBlock_74 : decode cX3_addBlock 74 = .ok (.ireturn, 1) := by decide +kernel
set_option maxRecDepth 20000 in
theorem ggX3_removeBlock_X3_closeGap : GoodIn wsX3_removeBlock wsX3_closeGap := goodIn_r _ [13, 8, 14, 15, 16, 17, 18, 19, 20, 21, 22, 23, 24, 25, 26] (by decide +kernel) (by decide +kernel)
set_option maxRecDepth 20000 in
theorem gX3_removeBlock_X3_closeGap : GoodIn wsX3_removeBlock (wsV RX3 70 RX3 yX3_closeGap wsX3_closeGap) := goodIn_app (goodIn_of _ (by decide +kernel)) ggX3_removeBlock_X3_closeGap
theorem dX3_removeBlock_0 : decode cX3_removeBlock 0 = .ok (.aload_n 0, 1) := by decide +kernel
theorem dX3_removeBlock_1 : decode cX3_removeBlock 1 = .ok (.aload_n 0, 1) := by decide +kernel
theorem dX3_removeBlock_2 : decode cX3_removeBlock 2 = .ok (.getfield 9, 3) := by decide +kernel
theorem dX3_removeBlock_5 : decode cX3_removeBlock 5 = .ok (.iload_n 1, 1) := by decide +kernel
theorem dX3_removeBlock_6 : decode cX3_removeBlock 6 = .ok (.invokevirtual 70, 3) := by decide +kernel
theorem dX3_removeBlock_9 : decode cX3_removeBlock 9 = .ok (.aload_n 0, 1) := by decide +kernel
theorem dX3_removeBlock_10 : decode cX3_removeBlock 10 = .ok (.aload_n 0, 1) := by decide +kernel
theorem dX3_removeBlock_11 : decode cX3_removeBlock 11 = .ok (.getfield 15, 3) := by decide +kernel
theorem dX3_removeBlock_14 : decode cX3_removeBlock 14 = .ok (.iload_n 1, 1) := by decide +kernel
theorem dX3_removeBlock_15 : decode cX3_removeBlock 15 = .ok (.invokevirtual 70, 3) := by decide +kernel
theorem dX3_removeBlock_18 : decode cX3_removeBlock 18 = .ok (.aload_n 0, 1) := by decide +kernel
theorem dX3_removeBlock_19 : decode cX3_removeBlock 19 = .ok (.aload_n 0, 1) := by decide +kernel
theorem dX3_removeBlock_20 : decode cX3_removeBlock 20 = .ok (.getfield 18, 3) := by decide +kernel
theorem dX3_removeBlock_23 : decode cX3_removeBlock 23 = .ok (.iload_n 1, 1) := by decide +kernel
theorem dX3_removeBlock_24 : decode cX3_removeBlock 24 = .ok (.invokevirtual 70, 3) := by decide +kernel
theorem dX3_removeBlock_27 : decode cX3_removeBlock 27 = .ok (.aload_n 0, 1) := by decide +kernel
theorem dX3_removeBlock_28 : decode cX3_removeBlock 28 = .ok (.aload_n 0, 1) := by decide +kernel
theorem dX3_removeBlock_29 : decode cX3_removeBlock 29 = .ok (.getfield 21, 3) := by decide +kernel
theorem dX3_removeBlock_32 : decode cX3_removeBlock 32 = .ok (.iload_n 1, 1) := by decide +kernel
theorem dX3_removeBlock_33 : decode cX3_removeBlock 33 = .ok (.invokevirtual 70, 3) := by decide +kernel
theorem dX3_removeBlock_36 : decode cX3_removeBlock 36 = .ok (.aload_n 0, 1) := by decide +kernel
theorem dX3_removeBlock_37 : decode cX3_removeBlock 37 = .ok (.aload_n 0, 1) := by decide +kernel
theorem dX3_removeBlock_38 : decode cX3_removeBlock 38 = .ok (.getfield 24, 3) := by decide +kernel
theorem dX3_removeBlock_41 : decode cX3_removeBlock 41 = .ok (.iload_n 1, 1) := by decide +kernel
theorem dX3_removeBlock_42 : decode cX3_removeBlock 42 = .ok (.invokevirtual 70, 3) := by decide +kernel
theorem dX3_removeBlock_45 : decode cX3_removeBlock 45 = .ok (.aload_n 0, 1) := by decide +kernel
theorem dX3_removeBlock_46 : decode cX3_removeBlock 46 = .ok (.aload_n 0, 1) := by decide +kernel
theorem dX3_removeBlock_47 : decode cX3_removeBlock 47 = .ok (.getfield 27, 3) := by decide +kernel
theorem dX3_removeBlock_50 : decode cX3_removeBlock 50 = .ok (.iload_n 1, 1) := by decide +kernel
theorem dX3_removeBlock_51 : decode cX3_removeBlock 51 = .ok (.invokevirtual 70, 3) := by decide +kernel
theorem dX3_removeBlock_54 : decode cX3_removeBlock 54 = .ok (.aload_n 0, 1) := by decide +kernel
theorem dX3_removeBlock_55 : decode cX3_removeBlock 55 = .ok (.aload_n 0, 1) := by decide +kernel
theorem dX3_removeBlock_56 : decode cX3_removeBlock 56 = .ok (.getfield 30, 3) := by decide +kernel
theorem dX3_removeBlock_59 : decode cX3_removeBlock 59 = .ok (.iload_n 1, 1) := by decide +kernel
theorem dX3_removeBlock_60 : decode cX3_removeBlock 60 = .ok (.invokevirtual 70, 3) := by decide +kernel
theorem dX3_removeBlock_63 : decode cX3_removeBlock 63 = .ok (.aload_n 0, 1) := by decide +kernel
theorem dX3_removeBlock_64 : decode cX3_removeBlock 64 = .ok (.dup, 1) := by decide +kernel
theorem dX3_removeBlock_65 : decode cX3_removeBlock 65 = .ok (.getfield 50, 3) := by decide +kernel
theorem dX3_removeBlock_68 : decode cX3_removeBlock 68 = .ok (.iconst 1, 1) := by decide +kernel
theorem dX3_removeBlock_69 : decode cX3_removeBlock 69 = .ok (.isub, 1) := by decide +kernel
theorem dX3_removeBlock_70 : decode cX3_removeBlock 70 = .ok (.putfield 50, 3) := by decide +kernel
theorem dX3_removeBlock_73 : decode cX3_removeBlock 73 = .ok (.return_, 1) := by decide +kernel
theorem dX3_closeGap_0 : decode cX3_closeGap 0 = .ok (.iload_n 2, 1) := by decide +kernel
theorem dX3_closeGap_1 : decode cX3_closeGap 1 = .ok (.iconst 1, 1) := by decide +kernel
theorem dX3_closeGap_2 : decode cX3_closeGap 2 = .ok (.iadd, 1) := by decide +kernel
theorem dX3_closeGap_3 : decode cX3_closeGap 3 = .ok (.istore_n 3, 1) := by decide +kernel
theorem dX3_closeGap_4 : decode cX3_closeGap 4 = .ok (.iload_n 3, 1) := by decide +kernel
theorem dX3_closeGap_5 : decode cX3_closeGap 5 = .ok (.aload_n 0, 1) := by decide +kernel
theorem dX3_closeGap_6 : decode cX3_closeGap 6 = .ok (.getfield 50, 3) := by decide +kernel
theorem dX3_closeGap_9 : decode cX3_closeGap 9 = .ok (.if_icmp .ge 17, 3) := by decide +kernel
theorem dX3_closeGap_12 : decode cX3_closeGap 12 = .ok (.aload_n 1, 1) := by decide +kernel
theorem dX3_closeGap_13 : decode cX3_closeGap 13 = .ok (.iload_n 3, 1) := by decide +kernel
theorem dX3_closeGap_14 : decode cX3_closeGap 14 = .ok (.iconst 1, 1) := by decide +kernel
theorem dX3_closeGap_15 : decode cX3_closeGap 15 = .ok (.isub, 1) := by decide +kernel
theorem dX3_closeGap_16 : decode cX3_closeGap 16 = .ok (.aload_n 1, 1) := by decide +kernel
theorem dX3_closeGap_17 : decode cX3_closeGap 17 = .ok (.iload_n 3, 1) := by decide +kernel
theorem dX3_closeGap_18 : decode cX3_closeGap 18 = .ok (.iaload, 1) := by decide +kernel
theorem dX3_closeGap_19 : decode cX3_closeGap 19 = .ok (.iastore, 1) := by decide +kernel
theorem dX3_closeGap_20 : decode cX3_closeGap 20 = .ok (.iinc 3 1, 3) := by decide +kernel
theorem dX3_closeGap_23 : decode cX3_closeGap 23 = .ok (.goto (-19), 3) := by decide +kernel
theorem dX3_closeGap_26 : decode cX3_closeGap 26 = .ok (.return_, 1) := by decide +kernel
theorem dX3_errorOf_0 : decode cX3_errorOf 0 = .ok (.aload_n 0, 1) := by decide +kernel
theorem dX3_errorOf_1 : decode cX3_errorOf 1 = .ok (.getfield 15, 3) := by decide +kernel
theorem dX3_errorOf_4 : decode cX3_errorOf 4 = .ok (.iload_n 1, 1) := by decide +kernel
theorem dX3_errorOf_5 : decode cX3_errorOf 5 = .ok (.iaload, 1) := by decide +kernel
theorem dX3_errorOf_6 : decode cX3_errorOf 6 = .ok (.aload_n 0, 1) := by decide +kernel
theorem dX3_errorOf_7 : decode cX3_errorOf 7 = .ok (.getfield 18, 3) := by decide +kernel
theorem dX3_errorOf_10 : decode cX3_errorOf 10 = .ok (.iload_n 1, 1) := by decide +kernel
theorem dX3_errorOf_11 : decode cX3_errorOf 11 = .ok (.iaload, 1) := by decide +kernel
theorem dX3_errorOf_12 : decode cX3_errorOf 12 = .ok (.isub, 1) := by decide +kernel
theorem dX3_errorOf_13 : decode cX3_errorOf 13 = .ok (.ireturn, 1) := by decide +kernel
set_option maxRecDepth 20000 in
theorem ggX3_sizeOfError_X3_errorOf : GoodIn wsX3_sizeOfError wsX3_errorOf := goodIn_r _ [9, 10, 11, 12, 13, 14, 15, 16, 17, 18, 19, 20, 21, 22, 23, 24] (by decide +kernel) (by decide +kernel)
set_option maxRecDepth 20000 in
theorem gX3_sizeOfError_X3_errorOf : GoodIn wsX3_sizeOfError (wsV RX3 74 RX3 yX3_errorOf wsX3_errorOf) := goodIn_app (goodIn_of _ (by decide +kernel)) ggX3_sizeOfError_X3_errorOf
theorem dX3_sizeOfError_0 : decode cX3_sizeOfError 0 = .ok (.aload_n 0, 1) := by decide +kernel
theorem dX3_sizeOfError_1 : decode cX3_sizeOfError 1 = .ok (.iload_n 1, 1) := by decide +kernel
theorem dX3_sizeOfError_2 : decode cX3_sizeOfError 2 = .ok (.invokevirtual 74, 3) := by decide +kernel
theorem dX3_sizeOfError_5 : decode cX3_sizeOfError 5 = .ok (.invokestatic 78, 3) := by decide +kernel
theorem dX3_sizeOfError_8 : decode cX3_sizeOfError 8 = .ok (.ireturn, 1) := by decide +kernel
set_option maxRecDepth 20000 in
theorem ggX3_sizesOfErrors_X3_sizeOfError : GoodIn wsX3_sizesOfErrors wsX3_sizeOfError := goodIn_r _ [6, 7, 8, 9, 10, 11, 12, 13, 5, 14, 15, 16, 17, 18, 19, 20, 21, 22, 23, 24, 25, 26, 27, 28, 29] (by decide +kernel) (by decide +kernel)
set_option maxRecDepth 20000 in
theorem gX3_sizesOfErrors_X3_sizeOfError : GoodIn wsX3_sizesOfErrors (wsV RX3 83 RX3 yX3_sizeOfError wsX3_sizeOfError) := goodIn_app (goodIn_of _ (by decide +kernel)) ggX3_sizesOfErrors_X3_sizeOfError
theorem dX3_sizesOfErrors_0 : decode cX3_sizesOfErrors 0 = .ok (.iconst 0, 1) := by decide +kernel
theorem dX3_sizesOfErrors_1 : decode cX3_sizesOfErrors 1 = .ok (.istore_n 1, 1) := by decide +kernel
theorem dX3_sizesOfErrors_2 : decode cX3_sizesOfErrors 2 = .ok (.iconst 0, 1) := by decide +kernel
theorem dX3_sizesOfErrors_3 : decode cX3_sizesOfErrors 3 = .ok (.istore_n 2, 1) := by decide +kernel
theorem dX3_sizesOfErrors_4 : decode cX3_sizesOfErrors 4 = .ok (.iload_n 2, 1) := by decide +kernel
theorem dX3_sizesOfErrors_5 : decode cX3_sizesOfErrors 5 = .ok (.aload_n 0, 1) := by decide +kernel
theorem dX3_sizesOfErrors_6 : decode cX3_sizesOfErrors 6 = .ok (.getfield 50, 3) := by decide +kernel
theorem dX3_sizesOfErrors_9 : decode cX3_sizesOfErrors 9 = .ok (.if_icmp .ge 17, 3) := by decide +kernel
theorem dX3_sizesOfErrors_12 : decode cX3_sizesOfErrors 12 = .ok (.iload_n 1, 1) := by decide +kernel
theorem dX3_sizesOfErrors_13 : decode cX3_sizesOfErrors 13 = .ok (.aload_n 0, 1) := by decide +kernel
theorem dX3_sizesOfErrors_14 : decode cX3_sizesOfErrors 14 = .ok (.iload_n 2, 1) := by decide +kernel
theorem dX3_sizesOfErrors_15 : decode cX3_sizesOfErrors 15 = .ok (.invokevirtual 83, 3) := by decide +kernel
theorem dX3_sizesOfErrors_18 : decode cX3_sizesOfErrors 18 = .ok (.iadd, 1) := by decide +kernel
theorem dX3_sizesOfErrors_19 : decode cX3_sizesOfErrors 19 = .ok (.istore_n 1, 1) := by decide +kernel
theorem dX3_sizesOfErrors_20 : decode cX3_sizesOfErrors 20 = .ok (.iinc 2 1, 3) := by decide +kernel
theorem dX3_sizesOfErrors_23 : decode cX3_sizesOfErrors 23 = .ok (.goto (-19), 3) := by decide +kernel
theorem dX3_sizesOfErrors_26 : decode cX3_sizesOfErrors 26 = .ok (.iload_n 1, 1) := by decide +kernel
theorem dX3_sizesOfErrors_27 : decode cX3_sizesOfErrors 27 = .ok (.ireturn, 1) := by decide +kernel
set_option maxRecDepth 20000 in
theorem ggX3_gradeOf_X3_sizeOfError : GoodIn wsX3_gradeOf wsX3_sizeOfError := goodIn_r _ [5, 6, 7, 8, 9, 10, 11, 12, 4, 13, 14, 15, 16, 17, 18, 19, 20, 21, 22, 23, 24, 25, 26, 27, 28] (by decide +kernel) (by decide +kernel)
set_option maxRecDepth 20000 in
theorem gX3_gradeOf_X3_sizeOfError : GoodIn wsX3_gradeOf (wsV RX3 83 RX3 yX3_sizeOfError wsX3_sizeOfError) := goodIn_app (goodIn_of _ (by decide +kernel)) ggX3_gradeOf_X3_sizeOfError
theorem dX3_gradeOf_0 : decode cX3_gradeOf 0 = .ok (.aload_n 0, 1) := by decide +kernel
theorem dX3_gradeOf_1 : decode cX3_gradeOf 1 = .ok (.iload_n 1, 1) := by decide +kernel
theorem dX3_gradeOf_2 : decode cX3_gradeOf 2 = .ok (.invokevirtual 83, 3) := by decide +kernel
theorem dX3_gradeOf_5 : decode cX3_gradeOf 5 = .ok (.istore_n 2, 1) := by decide +kernel
theorem dX3_gradeOf_6 : decode cX3_gradeOf 6 = .ok (.iload_n 2, 1) := by decide +kernel
theorem dX3_gradeOf_7 : decode cX3_gradeOf 7 = .ok (.bipush 100, 2) := by decide +kernel
theorem dX3_gradeOf_9 : decode cX3_gradeOf 9 = .ok (.if_icmp .gt 5, 3) := by decide +kernel
theorem dX3_gradeOf_12 : decode cX3_gradeOf 12 = .ok (.iconst 0, 1) := by decide +kernel
theorem dX3_gradeOf_13 : decode cX3_gradeOf 13 = .ok (.ireturn, 1) := by decide +kernel
theorem dX3_gradeOf_14 : decode cX3_gradeOf 14 = .ok (.iload_n 2, 1) := by decide +kernel
theorem dX3_gradeOf_15 : decode cX3_gradeOf 15 = .ok (.sipush 250, 3) := by decide +kernel
theorem dX3_gradeOf_18 : decode cX3_gradeOf 18 = .ok (.if_icmp .gt 5, 3) := by decide +kernel
theorem dX3_gradeOf_21 : decode cX3_gradeOf 21 = .ok (.iconst 1, 1) := by decide +kernel
theorem dX3_gradeOf_22 : decode cX3_gradeOf 22 = .ok (.ireturn, 1) := by decide +kernel
theorem dX3_gradeOf_23 : decode cX3_gradeOf 23 = .ok (.iload_n 2, 1) := by decide +kernel
theorem dX3_gradeOf_24 : decode cX3_gradeOf 24 = .ok (.sipush 500, 3) := by decide +kernel
theorem dX3_gradeOf_27 : decode cX3_gradeOf 27 = .ok (.if_icmp .gt 7, 3) := by decide +kernel
theorem dX3_gradeOf_30 : decode cX3_gradeOf 30 = .ok (.iconst 2, 1) := by decide +kernel
theorem dX3_gradeOf_31 : decode cX3_gradeOf 31 = .ok (.goto 4, 3) := by decide +kernel
theorem dX3_gradeOf_34 : decode cX3_gradeOf 34 = .ok (.iconst 3, 1) := by decide +kernel
theorem dX3_gradeOf_35 : decode cX3_gradeOf 35 = .ok (.ireturn, 1) := by decide +kernel
set_option maxRecDepth 20000 in
theorem ggX3_turnWearIntoDeviation_X3_errorOf : GoodIn wsX3_turnWearIntoDeviation wsX3_errorOf := goodIn_r _ [11, 1, 6, 12, 13, 14, 15, 16, 17, 18, 19, 20, 21, 22, 23, 24] (by decide +kernel) (by decide +kernel)
set_option maxRecDepth 20000 in
theorem gX3_turnWearIntoDeviation_X3_errorOf : GoodIn wsX3_turnWearIntoDeviation (wsV RX3 74 RX3 yX3_errorOf wsX3_errorOf) := goodIn_app (goodIn_of _ (by decide +kernel)) ggX3_turnWearIntoDeviation_X3_errorOf
theorem dX3_turnWearIntoDeviation_0 : decode cX3_turnWearIntoDeviation 0 = .ok (.aload_n 0, 1) := by decide +kernel
theorem dX3_turnWearIntoDeviation_1 : decode cX3_turnWearIntoDeviation 1 = .ok (.getfield 15, 3) := by decide +kernel
theorem dX3_turnWearIntoDeviation_4 : decode cX3_turnWearIntoDeviation 4 = .ok (.iload_n 1, 1) := by decide +kernel
theorem dX3_turnWearIntoDeviation_5 : decode cX3_turnWearIntoDeviation 5 = .ok (.aload_n 0, 1) := by decide +kernel
theorem dX3_turnWearIntoDeviation_6 : decode cX3_turnWearIntoDeviation 6 = .ok (.iload_n 1, 1) := by decide +kernel
theorem dX3_turnWearIntoDeviation_7 : decode cX3_turnWearIntoDeviation 7 = .ok (.invokevirtual 74, 3) := by decide +kernel
theorem dX3_turnWearIntoDeviation_10 : decode cX3_turnWearIntoDeviation 10 = .ok (.sipush (-900), 3) := by decide +kernel
theorem dX3_turnWearIntoDeviation_13 : decode cX3_turnWearIntoDeviation 13 = .ok (.invokestatic 86, 3) := by decide +kernel
theorem dX3_turnWearIntoDeviation_16 : decode cX3_turnWearIntoDeviation 16 = .ok (.iastore, 1) := by decide +kernel
theorem dX3_turnWearIntoDeviation_17 : decode cX3_turnWearIntoDeviation 17 = .ok (.aload_n 0, 1) := by decide +kernel
theorem dX3_turnWearIntoDeviation_18 : decode cX3_turnWearIntoDeviation 18 = .ok (.getfield 18, 3) := by decide +kernel
theorem dX3_turnWearIntoDeviation_21 : decode cX3_turnWearIntoDeviation 21 = .ok (.iload_n 1, 1) := by decide +kernel
theorem dX3_turnWearIntoDeviation_22 : decode cX3_turnWearIntoDeviation 22 = .ok (.iconst 0, 1) := by decide +kernel
theorem dX3_turnWearIntoDeviation_23 : decode cX3_turnWearIntoDeviation 23 = .ok (.iastore, 1) := by decide +kernel
theorem dX3_turnWearIntoDeviation_24 : decode cX3_turnWearIntoDeviation 24 = .ok (.return_, 1) := by decide +kernel
theorem dX3_wearOfAll_0 : decode cX3_wearOfAll 0 = .ok (.iconst 0, 1) := by decide +kernel
theorem dX3_wearOfAll_1 : decode cX3_wearOfAll 1 = .ok (.istore_n 1, 1) := by decide +kernel
theorem dX3_wearOfAll_2 : decode cX3_wearOfAll 2 = .ok (.iconst 0, 1) := by decide +kernel
theorem dX3_wearOfAll_3 : decode cX3_wearOfAll 3 = .ok (.istore_n 2, 1) := by decide +kernel
theorem dX3_wearOfAll_4 : decode cX3_wearOfAll 4 = .ok (.iload_n 2, 1) := by decide +kernel
theorem dX3_wearOfAll_5 : decode cX3_wearOfAll 5 = .ok (.aload_n 0, 1) := by decide +kernel
theorem dX3_wearOfAll_6 : decode cX3_wearOfAll 6 = .ok (.getfield 50, 3) := by decide +kernel
theorem dX3_wearOfAll_9 : decode cX3_wearOfAll 9 = .ok (.if_icmp .ge 18, 3) := by decide +kernel
theorem dX3_wearOfAll_12 : decode cX3_wearOfAll 12 = .ok (.iload_n 1, 1) := by decide +kernel
theorem dX3_wearOfAll_13 : decode cX3_wearOfAll 13 = .ok (.aload_n 0, 1) := by decide +kernel
theorem dX3_wearOfAll_14 : decode cX3_wearOfAll 14 = .ok (.getfield 18, 3) := by decide +kernel
theorem dX3_wearOfAll_17 : decode cX3_wearOfAll 17 = .ok (.iload_n 2, 1) := by decide +kernel
theorem dX3_wearOfAll_18 : decode cX3_wearOfAll 18 = .ok (.iaload, 1) := by decide +kernel
theorem dX3_wearOfAll_19 : decode cX3_wearOfAll 19 = .ok (.iadd, 1) := by decide +kernel
theorem dX3_wearOfAll_20 : decode cX3_wearOfAll 20 = .ok (.istore_n 1, 1) := by decide +kernel
theorem dX3_wearOfAll_21 : decode cX3_wearOfAll 21 = .ok (.iinc 2 1, 3) := by decide +kernel
theorem dX3_wearOfAll_24 : decode cX3_wearOfAll 24 = .ok (.goto (-20), 3) := by decide +kernel
theorem dX3_wearOfAll_27 : decode cX3_wearOfAll 27 = .ok (.iload_n 1, 1) := by decide +kernel
theorem dX3_wearOfAll_28 : decode cX3_wearOfAll 28 = .ok (.ireturn, 1) := by decide +kernel
theorem dX3_warm_0 : decode cX3_warm 0 = .ok (.aload_n 0, 1) := by decide +kernel
theorem dX3_warm_1 : decode cX3_warm 1 = .ok (.getfield 21, 3) := by decide +kernel
theorem dX3_warm_4 : decode cX3_warm 4 = .ok (.iload_n 1, 1) := by decide +kernel
theorem dX3_warm_5 : decode cX3_warm 5 = .ok (.aload_n 0, 1) := by decide +kernel
theorem dX3_warm_6 : decode cX3_warm 6 = .ok (.getfield 21, 3) := by decide +kernel
theorem dX3_warm_9 : decode cX3_warm 9 = .ok (.iload_n 1, 1) := by decide +kernel
theorem dX3_warm_10 : decode cX3_warm 10 = .ok (.iaload, 1) := by decide +kernel
theorem dX3_warm_11 : decode cX3_warm 11 = .ok (.iload_n 2, 1) := by decide +kernel
theorem dX3_warm_12 : decode cX3_warm 12 = .ok (.iadd, 1) := by decide +kernel
theorem dX3_warm_13 : decode cX3_warm 13 = .ok (.sipush 1000, 3) := by decide +kernel
theorem dX3_warm_16 : decode cX3_warm 16 = .ok (.invokestatic 90, 3) := by decide +kernel
theorem dX3_warm_19 : decode cX3_warm 19 = .ok (.iastore, 1) := by decide +kernel
theorem dX3_warm_20 : decode cX3_warm 20 = .ok (.return_, 1) := by decide +kernel
set_option maxRecDepth 20000 in
theorem ggX3_letPass_X3_cooled : GoodIn wsX3_letPass wsX3_cooled := goodIn_r _ [7] (by decide +kernel) (by decide +kernel)
set_option maxRecDepth 20000 in
theorem gX3_letPass_X3_cooled : GoodIn wsX3_letPass (va_wsS RX3 93 yX3_cooled wsX3_cooled) := goodIn_app (goodIn_of _ (by decide +kernel)) ggX3_letPass_X3_cooled
theorem dX3_letPass_0 : decode cX3_letPass 0 = .ok (.iconst 0, 1) := by decide +kernel
theorem dX3_letPass_1 : decode cX3_letPass 1 = .ok (.istore_n 2, 1) := by decide +kernel
theorem dX3_letPass_2 : decode cX3_letPass 2 = .ok (.iload_n 2, 1) := by decide +kernel
theorem dX3_letPass_3 : decode cX3_letPass 3 = .ok (.aload_n 0, 1) := by decide +kernel
theorem dX3_letPass_4 : decode cX3_letPass 4 = .ok (.getfield 50, 3) := by decide +kernel
theorem dX3_letPass_7 : decode cX3_letPass 7 = .ok (.if_icmp .ge 25, 3) := by decide +kernel
theorem dX3_letPass_10 : decode cX3_letPass 10 = .ok (.aload_n 0, 1) := by decide +kernel
theorem dX3_letPass_11 : decode cX3_letPass 11 = .ok (.getfield 21, 3) := by decide +kernel
theorem dX3_letPass_14 : decode cX3_letPass 14 = .ok (.iload_n 2, 1) := by decide +kernel
theorem dX3_letPass_15 : decode cX3_letPass 15 = .ok (.aload_n 0, 1) := by decide +kernel
theorem dX3_letPass_16 : decode cX3_letPass 16 = .ok (.getfield 21, 3) := by decide +kernel
theorem dX3_letPass_19 : decode cX3_letPass 19 = .ok (.iload_n 2, 1) := by decide +kernel
theorem dX3_letPass_20 : decode cX3_letPass 20 = .ok (.iaload, 1) := by decide +kernel
theorem dX3_letPass_21 : decode cX3_letPass 21 = .ok (.iload_n 1, 1) := by decide +kernel
theorem dX3_letPass_22 : decode cX3_letPass 22 = .ok (.invokestatic 93, 3) := by decide +kernel
theorem dX3_letPass_25 : decode cX3_letPass 25 = .ok (.iastore, 1) := by decide +kernel
theorem dX3_letPass_26 : decode cX3_letPass 26 = .ok (.iinc 2 1, 3) := by decide +kernel
theorem dX3_letPass_29 : decode cX3_letPass 29 = .ok (.goto (-27), 3) := by decide +kernel
theorem dX3_letPass_32 : decode cX3_letPass 32 = .ok (.aload_n 0, 1) := by decide +kernel
theorem dX3_letPass_33 : decode cX3_letPass 33 = .ok (.dup, 1) := by decide +kernel
theorem dX3_letPass_34 : decode cX3_letPass 34 = .ok (.getfield 54, 3) := by decide +kernel
theorem dX3_letPass_37 : decode cX3_letPass 37 = .ok (.iload_n 1, 1) := by decide +kernel
theorem dX3_letPass_38 : decode cX3_letPass 38 = .ok (.iadd, 1) := by decide +kernel
theorem dX3_letPass_39 : decode cX3_letPass 39 = .ok (.putfield 54, 3) := by decide +kernel
theorem dX3_letPass_42 : decode cX3_letPass 42 = .ok (.return_, 1) := by decide +kernel
theorem dX3_cooled_0 : decode cX3_cooled 0 = .ok (.iload_n 0, 1) := by decide +kernel
theorem dX3_cooled_1 : decode cX3_cooled 1 = .ok (.istore_n 2, 1) := by decide +kernel
theorem dX3_cooled_2 : decode cX3_cooled 2 = .ok (.iconst 0, 1) := by decide +kernel
theorem dX3_cooled_3 : decode cX3_cooled 3 = .ok (.istore_n 3, 1) := by decide +kernel
theorem dX3_cooled_4 : decode cX3_cooled 4 = .ok (.iload_n 3, 1) := by decide +kernel
theorem dX3_cooled_5 : decode cX3_cooled 5 = .ok (.iload_n 1, 1) := by decide +kernel
theorem dX3_cooled_6 : decode cX3_cooled 6 = .ok (.if_icmp .ge 23, 3) := by decide +kernel
theorem dX3_cooled_9 : decode cX3_cooled 9 = .ok (.iload_n 2, 1) := by decide +kernel
theorem dX3_cooled_10 : decode cX3_cooled 10 = .ok (.ifCond .le 19, 3) := by decide +kernel
theorem dX3_cooled_13 : decode cX3_cooled 13 = .ok (.iload_n 2, 1) := by decide +kernel
theorem dX3_cooled_14 : decode cX3_cooled 14 = .ok (.iload_n 2, 1) := by decide +kernel
theorem dX3_cooled_15 : decode cX3_cooled 15 = .ok (.bipush 9, 2) := by decide +kernel
theorem dX3_cooled_17 : decode cX3_cooled 17 = .ok (.iadd, 1) := by decide +kernel
theorem dX3_cooled_18 : decode cX3_cooled 18 = .ok (.bipush 10, 2) := by decide +kernel
theorem dX3_cooled_20 : decode cX3_cooled 20 = .ok (.idiv, 1) := by decide +kernel
theorem dX3_cooled_21 : decode cX3_cooled 21 = .ok (.isub, 1) := by decide +kernel
theorem dX3_cooled_22 : decode cX3_cooled 22 = .ok (.istore_n 2, 1) := by decide +kernel
theorem dX3_cooled_23 : decode cX3_cooled 23 = .ok (.iinc 3 1, 3) := by decide +kernel
theorem dX3_cooled_26 : decode cX3_cooled 26 = .ok (.goto (-22), 3) := by decide +kernel
theorem dX3_cooled_29 : decode cX3_cooled 29 = .ok (.iload_n 2, 1) := by decide +kernel
theorem dX3_cooled_30 : decode cX3_cooled 30 = .ok (.ireturn, 1) := by decide +kernel
set_option maxRecDepth 20000 in
theorem ggX3_minutesUntilCool_X3_cooled : GoodIn wsX3_minutesUntilCool wsX3_cooled := goodIn_r _ [6] (by decide +kernel) (by decide +kernel)
set_option maxRecDepth 20000 in
theorem gX3_minutesUntilCool_X3_cooled : GoodIn wsX3_minutesUntilCool (va_wsS RX3 93 yX3_cooled wsX3_cooled) := goodIn_app (goodIn_of _ (by decide +kernel)) ggX3_minutesUntilCool_X3_cooled
theorem dX3_minutesUntilCool_0 : decode cX3_minutesUntilCool 0 = .ok (.aload_n 0, 1) := by decide +kernel
theorem dX3_minutesUntilCool_1 : decode cX3_minutesUntilCool 1 = .ok (.getfield 21, 3) := by decide +kernel
theorem dX3_minutesUntilCool_4 : decode cX3_minutesUntilCool 4 = .ok (.iload_n 1, 1) := by decide +kernel
theorem dX3_minutesUntilCool_5 : decode cX3_minutesUntilCool 5 = .ok (.iaload, 1) := by decide +kernel
theorem dX3_minutesUntilCool_6 : decode cX3_minutesUntilCool 6 = .ok (.istore_n 2, 1) := by decide +kernel
theorem dX3_minutesUntilCool_7 : decode cX3_minutesUntilCool 7 = .ok (.iconst 0, 1) := by decide +kernel
theorem dX3_minutesUntilCool_8 : decode cX3_minutesUntilCool 8 = .ok (.istore_n 3, 1) := by decide +kernel
theorem dX3_minutesUntilCool_9 : decode cX3_minutesUntilCool 9 = .ok (.iload_n 2, 1) := by decide +kernel
theorem dX3_minutesUntilCool_10 : decode cX3_minutesUntilCool 10 = .ok (.aload_n 0, 1) := by decide +kernel
theorem dX3_minutesUntilCool_11 : decode cX3_minutesUntilCool 11 = .ok (.getfield 41, 3) := by decide +kernel
theorem dX3_minutesUntilCool_14 : decode cX3_minutesUntilCool 14 = .ok (.iconst 1, 1) := by decide +kernel
theorem dX3_minutesUntilCool_15 : decode cX3_minutesUntilCool 15 = .ok (.iaload, 1) := by decide +kernel
theorem dX3_minutesUntilCool_16 : decode cX3_minutesUntilCool 16 = .ok (.if_icmp .le 22, 3) := by decide +kernel
theorem dX3_minutesUntilCool_19 : decode cX3_minutesUntilCool 19 = .ok (.iload_n 3, 1) := by decide +kernel
theorem dX3_minutesUntilCool_20 : decode cX3_minutesUntilCool 20 = .ok (.sipush 1000, 3) := by decide +kernel
theorem dX3_minutesUntilCool_23 : decode cX3_minutesUntilCool 23 = .ok (.if_icmp .ge 15, 3) := by decide +kernel
theorem dX3_minutesUntilCool_26 : decode cX3_minutesUntilCool 26 = .ok (.iload_n 2, 1) := by decide +kernel
theorem dX3_minutesUntilCool_27 : decode cX3_minutesUntilCool 27 = .ok (.iconst 1, 1) := by decide +kernel
theorem dX3_minutesUntilCool_28 : decode cX3_minutesUntilCool 28 = .ok (.invokestatic 93, 3) := by decide +kernel
theorem dX3_minutesUntilCool_31 : decode cX3_minutesUntilCool 31 = .ok (.istore_n 2, 1) := by decide +kernel
theorem dX3_minutesUntilCool_32 : decode cX3_minutesUntilCool 32 = .ok (.iinc 3 1, 3) := by decide +kernel
theorem dX3_minutesUntilCool_35 : decode cX3_minutesUntilCool 35 = .ok (.goto (-26), 3) := by decide +kernel
theorem dX3_minutesUntilCool_38 : decode cX3_minutesUntilCool 38 = .ok (.iload_n 3, 1) := by decide +kernel
theorem dX3_minutesUntilCool_39 : decode cX3_minutesUntilCool 39 = .ok (.ireturn, 1) := by decide +kernel
theorem dX3_greatestWarmth_0 : decode cX3_greatestWarmth 0 = .ok (.iconst 0, 1) := by decide +kernel
theorem dX3_greatestWarmth_1 : decode cX3_greatestWarmth 1 = .ok (.istore_n 1, 1) := by decide +kernel
theorem dX3_greatestWarmth_2 : decode cX3_greatestWarmth 2 = .ok (.iconst 0, 1) := by decide +kernel
theorem dX3_greatestWarmth_3 : decode cX3_greatestWarmth 3 = .ok (.istore_n 2, 1) := by decide +kernel
theorem dX3_greatestWarmth_4 : decode cX3_greatestWarmth 4 = .ok (.iload_n 2, 1) := by decide +kernel
theorem dX3_greatestWarmth_5 : decode cX3_greatestWarmth 5 = .ok (.aload_n 0, 1) := by decide +kernel
theorem dX3_greatestWarmth_6 : decode cX3_greatestWarmth 6 = .ok (.getfield 50, 3) := by decide +kernel
theorem dX3_greatestWarmth_9 : decode cX3_greatestWarmth 9 = .ok (.if_icmp .ge 20, 3) := by decide +kernel
theorem dX3_greatestWarmth_12 : decode cX3_greatestWarmth 12 = .ok (.iload_n 1, 1) := by decide +kernel
theorem dX3_greatestWarmth_13 : decode cX3_greatestWarmth 13 = .ok (.aload_n 0, 1) := by decide +kernel
theorem dX3_greatestWarmth_14 : decode cX3_greatestWarmth 14 = .ok (.getfield 21, 3) := by decide +kernel
theorem dX3_greatestWarmth_17 : decode cX3_greatestWarmth 17 = .ok (.iload_n 2, 1) := by decide +kernel
theorem dX3_greatestWarmth_18 : decode cX3_greatestWarmth 18 = .ok (.iaload, 1) := by decide +kernel
theorem dX3_greatestWarmth_19 : decode cX3_greatestWarmth 19 = .ok (.invokestatic 86, 3) := by decide +kernel
theorem dX3_greatestWarmth_22 : decode cX3_greatestWarmth 22 = .ok (.istore_n 1, 1) := by decide +kernel
theorem dX3_greatestWarmth_23 : decode cX3_greatestWarmth 23 = .ok (.iinc 2 1, 3) := by decide +kernel
theorem dX3_greatestWarmth_26 : decode cX3_greatestWarmth 26 = .ok (.goto (-22), 3) := by decide +kernel
theorem dX3_greatestWarmth_29 : decode cX3_greatestWarmth 29 = .ok (.iload_n 1, 1) := by decide +kernel
theorem dX3_greatestWarmth_30 : decode cX3_greatestWarmth 30 = .ok (.ireturn, 1) := by decide +kernel
set_option maxRecDepth 20000 in
theorem ggX3_reasonToRefuse_X3_isFree : GoodIn wsX3_reasonToRefuse wsX3_isFree := goodIn_r _ [7, 8, 43, 44, 45, 46, 47, 48, 49, 50, 51, 52, 53, 54, 55] (by decide +kernel) (by decide +kernel)
set_option maxRecDepth 20000 in
theorem gX3_reasonToRefuse_X3_isFree : GoodIn wsX3_reasonToRefuse (wsV RX3 96 RX3 yX3_isFree wsX3_isFree) := goodIn_app (goodIn_of _ (by decide +kernel)) ggX3_reasonToRefuse_X3_isFree
set_option maxRecDepth 20000 in
theorem ggX3_reasonToRefuse_X3_heightOf : GoodIn wsX3_reasonToRefuse wsX3_heightOf := goodIn_r _ [12, 13, 14, 15, 6, 16, 17, 8, 18, 19, 20, 21, 22, 23, 24, 43, 44, 45, 46, 47, 48, 49, 50, 51, 52, 53, 54, 55] (by decide +kernel) (by decide +kernel)
set_option maxRecDepth 20000 in
theorem gX3_reasonToRefuse_X3_heightOf : GoodIn wsX3_reasonToRefuse (wsV RX3 100 RX3 yX3_heightOf wsX3_heightOf) := goodIn_app (goodIn_of _ (by decide +kernel)) ggX3_reasonToRefuse_X3_heightOf
set_option maxRecDepth 20000 in
theorem ggX3_reasonToRefuse_X3_gradeOf : GoodIn wsX3_reasonToRefuse wsX3_gradeOf := goodIn_r _ [28, 29, 30, 31, 6, 32, 33, 34, 35, 36, 37, 38, 39, 40, 41, 42, 43, 44, 45, 46, 47, 48, 49, 50, 51, 52, 53, 54, 55] (by decide +kernel) (by decide +kernel)
set_option maxRecDepth 20000 in
theorem gX3_reasonToRefuse_X3_gradeOf : GoodIn wsX3_reasonToRefuse (wsV RX3 103 RX3 yX3_gradeOf wsX3_gradeOf) := goodIn_app (goodIn_of _ (by decide +kernel)) ggX3_reasonToRefuse_X3_gradeOf
theorem dX3_reasonToRefuse_0 : decode cX3_reasonToRefuse 0 = .ok (.aload_n 0, 1) := by decide +kernel
theorem dX3_reasonToRefuse_1 : decode cX3_reasonToRefuse 1 = .ok (.iload_n 2, 1) := by decide +kernel
theorem dX3_reasonToRefuse_2 : decode cX3_reasonToRefuse 2 = .ok (.invokevirtual 96, 3) := by decide +kernel
theorem dX3_reasonToRefuse_5 : decode cX3_reasonToRefuse 5 = .ok (.ifCond .ne 5, 3) := by decide +kernel
theorem dX3_reasonToRefuse_8 : decode cX3_reasonToRefuse 8 = .ok (.iconst 1, 1) := by decide +kernel
theorem dX3_reasonToRefuse_9 : decode cX3_reasonToRefuse 9 = .ok (.ireturn, 1) := by decide +kernel
theorem dX3_reasonToRefuse_10 : decode cX3_reasonToRefuse 10 = .ok (.aload_n 0, 1) := by decide +kernel
theorem dX3_reasonToRefuse_11 : decode cX3_reasonToRefuse 11 = .ok (.iload_n 1, 1) := by decide +kernel
theorem dX3_reasonToRefuse_12 : decode cX3_reasonToRefuse 12 = .ok (.invokevirtual 100, 3) := by decide +kernel
theorem dX3_reasonToRefuse_15 : decode cX3_reasonToRefuse 15 = .ok (.bipush 6, 2) := by decide +kernel
theorem dX3_reasonToRefuse_17 : decode cX3_reasonToRefuse 17 = .ok (.if_icmp .lt 5, 3) := by decide +kernel
theorem dX3_reasonToRefuse_20 : decode cX3_reasonToRefuse 20 = .ok (.iconst 2, 1) := by decide +kernel
theorem dX3_reasonToRefuse_21 : decode cX3_reasonToRefuse 21 = .ok (.ireturn, 1) := by decide +kernel
theorem dX3_reasonToRefuse_22 : decode cX3_reasonToRefuse 22 = .ok (.aload_n 0, 1) := by decide +kernel
theorem dX3_reasonToRefuse_23 : decode cX3_reasonToRefuse 23 = .ok (.getfield 21, 3) := by decide +kernel
theorem dX3_reasonToRefuse_26 : decode cX3_reasonToRefuse 26 = .ok (.iload_n 2, 1) := by decide +kernel
theorem dX3_reasonToRefuse_27 : decode cX3_reasonToRefuse 27 = .ok (.iaload, 1) := by decide +kernel
theorem dX3_reasonToRefuse_28 : decode cX3_reasonToRefuse 28 = .ok (.aload_n 0, 1) := by decide +kernel
theorem dX3_reasonToRefuse_29 : decode cX3_reasonToRefuse 29 = .ok (.getfield 41, 3) := by decide +kernel
theorem dX3_reasonToRefuse_32 : decode cX3_reasonToRefuse 32 = .ok (.iconst 1, 1) := by decide +kernel
theorem dX3_reasonToRefuse_33 : decode cX3_reasonToRefuse 33 = .ok (.iaload, 1) := by decide +kernel
theorem dX3_reasonToRefuse_34 : decode cX3_reasonToRefuse 34 = .ok (.if_icmp .le 5, 3) := by decide +kernel
theorem dX3_reasonToRefuse_37 : decode cX3_reasonToRefuse 37 = .ok (.iconst 3, 1) := by decide +kernel
theorem dX3_reasonToRefuse_38 : decode cX3_reasonToRefuse 38 = .ok (.ireturn, 1) := by decide +kernel
theorem dX3_reasonToRefuse_39 : decode cX3_reasonToRefuse 39 = .ok (.aload_n 0, 1) := by decide +kernel
theorem dX3_reasonToRefuse_40 : decode cX3_reasonToRefuse 40 = .ok (.iload_n 2, 1) := by decide +kernel
theorem dX3_reasonToRefuse_41 : decode cX3_reasonToRefuse 41 = .ok (.invokevirtual 103, 3) := by decide +kernel
theorem dX3_reasonToRefuse_44 : decode cX3_reasonToRefuse 44 = .ok (.iconst 3, 1) := by decide +kernel
theorem dX3_reasonToRefuse_45 : decode cX3_reasonToRefuse 45 = .ok (.if_icmp .ne 7, 3) := by decide +kernel
theorem dX3_reasonToRefuse_48 : decode cX3_reasonToRefuse 48 = .ok (.iconst 4, 1) := by decide +kernel
theorem dX3_reasonToRefuse_49 : decode cX3_reasonToRefuse 49 = .ok (.goto 4, 3) := by decide +kernel
theorem dX3_reasonToRefuse_52 : decode cX3_reasonToRefuse 52 = .ok (.iconst 0, 1) := by decide +kernel
theorem dX3_reasonToRefuse_53 : decode cX3_reasonToRefuse 53 = .ok (.ireturn, 1) := by decide +kernel
set_option maxRecDepth 20000 in
theorem ggX3_tryToWring_X3_reasonToRefuse : GoodIn wsX3_tryToWring wsX3_reasonToRefuse := goodIn_r _ [6, 7, 8, 9, 10, 11, 5, 12, 13, 14, 15, 16, 17, 18, 19, 20, 21, 22, 23, 24, 25, 26, 27, 28, 29, 30, 31, 32, 33, 34, 35, 36, 37, 38, 39, 40, 41, 42, 43, 44, 45, 46, 47, 70, 71, 72, 73, 74, 75, 76, 77, 78, 79, 80, 81, 82] (by decide +kernel) (by decide +kernel)
set_option maxRecDepth 20000 in
theorem gX3_tryToWring_X3_reasonToRefuse : GoodIn wsX3_tryToWring (wsV RX3 106 RX3 yX3_reasonToRefuse wsX3_reasonToRefuse) := goodIn_app (goodIn_of _ (by decide +kernel)) ggX3_tryToWring_X3_reasonToRefuse
set_option maxRecDepth 20000 in
theorem ggX3_tryToWring_X3_putOnTop : GoodIn wsX3_tryToWring wsX3_putOnTop := goodIn_r _ [51, 13, 52, 53, 54, 14, 15, 16, 5, 17, 18, 19, 20, 21, 22, 23, 24, 25, 26, 27, 28, 29, 55, 56, 57, 58, 59, 60, 61, 62, 8, 47, 63, 64, 65, 66, 7, 67, 68, 40, 69, 70, 71, 72, 73, 74, 75, 76, 77, 78, 79, 80, 81, 82] (by decide +kernel) (by decide +kernel)
set_option maxRecDepth 20000 in
theorem gX3_tryToWring_X3_putOnTop : GoodIn wsX3_tryToWring (wsV RX3 109 RX3 yX3_putOnTop wsX3_putOnTop) := goodIn_app (goodIn_of _ (by decide +kernel)) ggX3_tryToWring_X3_putOnTop
theorem dX3_tryToWring_0 : decode cX3_tryToWring 0 = .ok (.aload_n 0, 1) := by decide +kernel
theorem dX3_tryToWring_1 : decode cX3_tryToWring 1 = .ok (.iload_n 1, 1) := by decide +kernel
theorem dX3_tryToWring_2 : decode cX3_tryToWring 2 = .ok (.iload_n 2, 1) := by decide +kernel
theorem dX3_tryToWring_3 : decode cX3_tryToWring 3 = .ok (.invokevirtual 106, 3) := by decide +kernel
theorem dX3_tryToWring_6 : decode cX3_tryToWring 6 = .ok (.istore_n 3, 1) := by decide +kernel
theorem dX3_tryToWring_7 : decode cX3_tryToWring 7 = .ok (.iload_n 3, 1) := by decide +kernel
theorem dX3_tryToWring_8 : decode cX3_tryToWring 8 = .ok (.ifCond .ne 12, 3) := by decide +kernel
theorem dX3_tryToWring_11 : decode cX3_tryToWring 11 = .ok (.aload_n 0, 1) := by decide +kernel
theorem dX3_tryToWring_12 : decode cX3_tryToWring 12 = .ok (.iload_n 1, 1) := by decide +kernel
theorem dX3_tryToWring_13 : decode cX3_tryToWring 13 = .ok (.iload_n 2, 1) := by decide +kernel
theorem dX3_tryToWring_14 : decode cX3_tryToWring 14 = .ok (.invokevirtual 109, 3) := by decide +kernel
theorem dX3_tryToWring_17 : decode cX3_tryToWring 17 = .ok (.goto 13, 3) := by decide +kernel
theorem dX3_tryToWring_20 : decode cX3_tryToWring 20 = .ok (.aload_n 0, 1) := by decide +kernel
theorem dX3_tryToWring_21 : decode cX3_tryToWring 21 = .ok (.dup, 1) := by decide +kernel
theorem dX3_tryToWring_22 : decode cX3_tryToWring 22 = .ok (.getfield 63, 3) := by decide +kernel
theorem dX3_tryToWring_25 : decode cX3_tryToWring 25 = .ok (.iconst 1, 1) := by decide +kernel
theorem dX3_tryToWring_26 : decode cX3_tryToWring 26 = .ok (.iadd, 1) := by decide +kernel
theorem dX3_tryToWring_27 : decode cX3_tryToWring 27 = .ok (.putfield 63, 3) := by decide +kernel
theorem dX3_tryToWring_30 : decode cX3_tryToWring 30 = .ok (.iload_n 3, 1) := by decide +kernel
theorem dX3_tryToWring_31 : decode cX3_tryToWring 31 = .ok (.ireturn, 1) := by decide +kernel
set_option maxRecDepth 20000 in
theorem ggX3_wringSet_X3_tryToWring : GoodIn wsX3_wringSet wsX3_tryToWring := goodIn_r _ [6, 7, 8, 9, 10, 5, 11, 12, 13, 14, 15, 16, 17, 18, 19, 20, 21, 22, 23, 24, 25, 26, 1, 27, 28, 29, 30, 31, 32, 33, 34, 35, 36, 37, 38, 39, 40, 41, 42, 43, 44, 45, 46, 47, 48, 49, 50, 51, 52, 53, 54, 55, 56, 57, 58, 59, 60, 61, 62, 63, 64, 65, 66, 67, 68, 69, 70, 71, 72, 73, 74, 75, 76, 77, 78, 79, 80, 81, 82, 83, 84, 85, 86] (by decide +kernel) (by decide +kernel)
set_option maxRecDepth 20000 in
theorem gX3_wringSet_X3_tryToWring : GoodIn wsX3_wringSet (wsV RX3 113 RX3 yX3_tryToWring wsX3_tryToWring) := goodIn_app (goodIn_of _ (by decide +kernel)) ggX3_wringSet_X3_tryToWring
theorem dX3_wringSet_0 : decode cX3_wringSet 0 = .ok (.iconst 0, 1) := by decide +kernel
theorem dX3_wringSet_1 : decode cX3_wringSet 1 = .ok (.istore_n 3, 1) := by decide +kernel
theorem dX3_wringSet_2 : decode cX3_wringSet 2 = .ok (.iconst 0, 1) := by decide +kernel
theorem dX3_wringSet_3 : decode cX3_wringSet 3 = .ok (.istore 4, 2) := by decide +kernel
theorem dX3_wringSet_5 : decode cX3_wringSet 5 = .ok (.iload 4, 2) := by decide +kernel
theorem dX3_wringSet_7 : decode cX3_wringSet 7 = .ok (.aload_n 0, 1) := by decide +kernel
theorem dX3_wringSet_8 : decode cX3_wringSet 8 = .ok (.getfield 50, 3) := by decide +kernel
theorem dX3_wringSet_11 : decode cX3_wringSet 11 = .ok (.if_icmp .ge 33, 3) := by decide +kernel
theorem dX3_wringSet_14 : decode cX3_wringSet 14 = .ok (.iload_n 2, 1) := by decide +kernel
theorem dX3_wringSet_15 : decode cX3_wringSet 15 = .ok (.iload 4, 2) := by decide +kernel
theorem dX3_wringSet_17 : decode cX3_wringSet 17 = .ok (.ishr, 1) := by decide +kernel
theorem dX3_wringSet_18 : decode cX3_wringSet 18 = .ok (.iconst 1, 1) := by decide +kernel
theorem dX3_wringSet_19 : decode cX3_wringSet 19 = .ok (.iand, 1) := by decide +kernel
theorem dX3_wringSet_20 : decode cX3_wringSet 20 = .ok (.ifCond .eq 18, 3) := by decide +kernel
theorem dX3_wringSet_23 : decode cX3_wringSet 23 = .ok (.aload_n 0, 1) := by decide +kernel
theorem dX3_wringSet_24 : decode cX3_wringSet 24 = .ok (.iload_n 1, 1) := by decide +kernel
theorem dX3_wringSet_25 : decode cX3_wringSet 25 = .ok (.iload 4, 2) := by decide +kernel
theorem dX3_wringSet_27 : decode cX3_wringSet 27 = .ok (.invokevirtual 113, 3) := by decide +kernel
theorem dX3_wringSet_30 : decode cX3_wringSet 30 = .ok (.ifCond .eq 5, 3) := by decide +kernel
theorem dX3_wringSet_33 : decode cX3_wringSet 33 = .ok (.iload_n 3, 1) := by decide +kernel
theorem dX3_wringSet_34 : decode cX3_wringSet 34 = .ok (.ireturn, 1) := by decide +kernel
theorem dX3_wringSet_35 : decode cX3_wringSet 35 = .ok (.iinc 3 1, 3) := by decide +kernel
theorem dX3_wringSet_38 : decode cX3_wringSet 38 = .ok (.iinc 4 1, 3) := by decide +kernel
theorem dX3_wringSet_41 : decode cX3_wringSet 41 = .ok (.goto (-36), 3) := by decide +kernel
theorem dX3_wringSet_44 : decode cX3_wringSet 44 = .ok (.iload_n 3, 1) := by decide +kernel
theorem dX3_wringSet_45 : decode cX3_wringSet 45 = .ok (.ireturn, 1) := by decide +kernel
set_option maxRecDepth 20000 in
theorem ggX3_putOnTop_X3_heightOf : GoodIn wsX3_putOnTop wsX3_heightOf := goodIn_r _ [9, 10, 11, 12, 8, 13, 14, 1, 15, 16, 17, 18, 19, 20, 21, 41, 42, 43, 44, 45, 46, 47, 48, 49, 50, 51, 52, 53] (by decide +kernel) (by decide +kernel)
set_option maxRecDepth 20000 in
theorem gX3_putOnTop_X3_heightOf : GoodIn wsX3_putOnTop (wsV RX3 100 RX3 yX3_heightOf wsX3_heightOf) := goodIn_app (goodIn_of _ (by decide +kernel)) ggX3_putOnTop_X3_heightOf
set_option maxRecDepth 20000 in
theorem ggX3_putOnTop_X3_blockAt : GoodIn wsX3_putOnTop wsX3_blockAt := goodIn_r _ [25, 14, 1, 2, 41, 42, 43, 44, 45, 46, 47, 48, 49, 50, 51, 52, 53] (by decide +kernel) (by decide +kernel)
set_option maxRecDepth 20000 in
theorem gX3_putOnTop_X3_blockAt : GoodIn wsX3_putOnTop (wsV RX3 116 RX3 yX3_blockAt wsX3_blockAt) := goodIn_app (goodIn_of _ (by decide +kernel)) ggX3_putOnTop_X3_blockAt
set_option maxRecDepth 20000 in
theorem ggX3_putOnTop_X3_slide : GoodIn wsX3_putOnTop wsX3_slide := goodIn_r _ [29, 30, 31, 32, 33, 34, 8, 35, 36, 37, 38, 39, 40, 41, 42, 43, 44, 45, 46, 47, 48, 49, 50, 51, 52, 53] (by decide +kernel) (by decide +kernel)
set_option maxRecDepth 20000 in
theorem gX3_putOnTop_X3_slide : GoodIn wsX3_putOnTop (wsV RX3 119 RX3 yX3_slide wsX3_slide) := goodIn_app (goodIn_of _ (by decide +kernel)) ggX3_putOnTop_X3_slide
theorem dX3_putOnTop_0 : decode cX3_putOnTop 0 = .ok (.aload_n 0, 1) := by decide +kernel
theorem dX3_putOnTop_1 : decode cX3_putOnTop 1 = .ok (.iload_n 1, 1) := by decide +kernel
theorem dX3_putOnTop_2 : decode cX3_putOnTop 2 = .ok (.invokevirtual 100, 3) := by decide +kernel
theorem dX3_putOnTop_5 : decode cX3_putOnTop 5 = .ok (.istore_n 3, 1) := by decide +kernel
theorem dX3_putOnTop_6 : decode cX3_putOnTop 6 = .ok (.aload_n 0, 1) := by decide +kernel
theorem dX3_putOnTop_7 : decode cX3_putOnTop 7 = .ok (.iload_n 2, 1) := by decide +kernel
theorem dX3_putOnTop_8 : decode cX3_putOnTop 8 = .ok (.aload_n 0, 1) := by decide +kernel
theorem dX3_putOnTop_9 : decode cX3_putOnTop 9 = .ok (.iload_n 1, 1) := by decide +kernel
theorem dX3_putOnTop_10 : decode cX3_putOnTop 10 = .ok (.iload_n 3, 1) := by decide +kernel
theorem dX3_putOnTop_11 : decode cX3_putOnTop 11 = .ok (.iconst 1, 1) := by decide +kernel
theorem dX3_putOnTop_12 : decode cX3_putOnTop 12 = .ok (.isub, 1) := by decide +kernel
theorem dX3_putOnTop_13 : decode cX3_putOnTop 13 = .ok (.invokevirtual 116, 3) := by decide +kernel
theorem dX3_putOnTop_16 : decode cX3_putOnTop 16 = .ok (.invokevirtual 119, 3) := by decide +kernel
theorem dX3_putOnTop_19 : decode cX3_putOnTop 19 = .ok (.aload_n 0, 1) := by decide +kernel
theorem dX3_putOnTop_20 : decode cX3_putOnTop 20 = .ok (.getfield 24, 3) := by decide +kernel
theorem dX3_putOnTop_23 : decode cX3_putOnTop 23 = .ok (.iload_n 2, 1) := by decide +kernel
theorem dX3_putOnTop_24 : decode cX3_putOnTop 24 = .ok (.iload_n 1, 1) := by decide +kernel
theorem dX3_putOnTop_25 : decode cX3_putOnTop 25 = .ok (.iastore, 1) := by decide +kernel
theorem dX3_putOnTop_26 : decode cX3_putOnTop 26 = .ok (.aload_n 0, 1) := by decide +kernel
theorem dX3_putOnTop_27 : decode cX3_putOnTop 27 = .ok (.getfield 27, 3) := by decide +kernel
theorem dX3_putOnTop_30 : decode cX3_putOnTop 30 = .ok (.iload_n 2, 1) := by decide +kernel
theorem dX3_putOnTop_31 : decode cX3_putOnTop 31 = .ok (.iload_n 3, 1) := by decide +kernel
theorem dX3_putOnTop_32 : decode cX3_putOnTop 32 = .ok (.iastore, 1) := by decide +kernel
theorem dX3_putOnTop_33 : decode cX3_putOnTop 33 = .ok (.aload_n 0, 1) := by decide +kernel
theorem dX3_putOnTop_34 : decode cX3_putOnTop 34 = .ok (.getfield 30, 3) := by decide +kernel
theorem dX3_putOnTop_37 : decode cX3_putOnTop 37 = .ok (.iload_n 2, 1) := by decide +kernel
theorem dX3_putOnTop_38 : decode cX3_putOnTop 38 = .ok (.dup2, 1) := by decide +kernel
theorem dX3_putOnTop_39 : decode cX3_putOnTop 39 = .ok (.iaload, 1) := by decide +kernel
theorem dX3_putOnTop_40 : decode cX3_putOnTop 40 = .ok (.iconst 1, 1) := by decide +kernel
theorem dX3_putOnTop_41 : decode cX3_putOnTop 41 = .ok (.iadd, 1) := by decide +kernel
theorem dX3_putOnTop_42 : decode cX3_putOnTop 42 = .ok (.iastore, 1) := by decide +kernel
theorem dX3_putOnTop_43 : decode cX3_putOnTop 43 = .ok (.aload_n 0, 1) := by decide +kernel
theorem dX3_putOnTop_44 : decode cX3_putOnTop 44 = .ok (.dup, 1) := by decide +kernel
theorem dX3_putOnTop_45 : decode cX3_putOnTop 45 = .ok (.getfield 57, 3) := by decide +kernel
theorem dX3_putOnTop_48 : decode cX3_putOnTop 48 = .ok (.iconst 1, 1) := by decide +kernel
theorem dX3_putOnTop_49 : decode cX3_putOnTop 49 = .ok (.iadd, 1) := by decide +kernel
theorem dX3_putOnTop_50 : decode cX3_putOnTop 50 = .ok (.putfield 57, 3) := by decide +kernel
theorem dX3_putOnTop_53 : decode cX3_putOnTop 53 = .ok (.return_, 1) := by decide +kernel
set_option maxRecDepth 20000 in
theorem ggX3_takeTopOff_X3_heightOf : GoodIn wsX3_takeTopOff wsX3_heightOf := goodIn_r _ [8, 9, 10, 11, 7, 12, 13, 1, 14, 15, 16, 17, 18, 19, 20, 40, 41, 42, 43, 44, 45, 46, 47, 48, 49, 50, 51, 52] (by decide +kernel) (by decide +kernel)
set_option maxRecDepth 20000 in
theorem gX3_takeTopOff_X3_heightOf : GoodIn wsX3_takeTopOff (wsV RX3 100 RX3 yX3_heightOf wsX3_heightOf) := goodIn_app (goodIn_of _ (by decide +kernel)) ggX3_takeTopOff_X3_heightOf
set_option maxRecDepth 20000 in
theorem ggX3_takeTopOff_X3_blockAt : GoodIn wsX3_takeTopOff wsX3_blockAt := goodIn_r _ [24, 13, 1, 2, 40, 41, 42, 43, 44, 45, 46, 47, 48, 49, 50, 51, 52] (by decide +kernel) (by decide +kernel)
set_option maxRecDepth 20000 in
theorem gX3_takeTopOff_X3_blockAt : GoodIn wsX3_takeTopOff (wsV RX3 116 RX3 yX3_blockAt wsX3_blockAt) := goodIn_app (goodIn_of _ (by decide +kernel)) ggX3_takeTopOff_X3_blockAt
set_option maxRecDepth 20000 in
theorem ggX3_takeTopOff_X3_slide : GoodIn wsX3_takeTopOff wsX3_slide := goodIn_r _ [28, 29, 30, 31, 32, 33, 7, 34, 35, 36, 37, 38, 39, 40, 41, 42, 43, 44, 45, 46, 47, 48, 49, 50, 51, 52] (by decide +kernel) (by decide +kernel)
set_option maxRecDepth 20000 in
theorem gX3_takeTopOff_X3_slide : GoodIn wsX3_takeTopOff (wsV RX3 119 RX3 yX3_slide wsX3_slide) := goodIn_app (goodIn_of _ (by decide +kernel)) ggX3_takeTopOff_X3_slide
theorem dX3_takeTopOff_0 : decode cX3_takeTopOff 0 = .ok (.aload_n 0, 1) := by decide +kernel
theorem dX3_takeTopOff_1 : decode cX3_takeTopOff 1 = .ok (.iload_n 1, 1) := by decide +kernel
theorem dX3_takeTopOff_2 : decode cX3_takeTopOff 2 = .ok (.invokevirtual 100, 3) := by decide +kernel
theorem dX3_takeTopOff_5 : decode cX3_takeTopOff 5 = .ok (.istore_n 2, 1) := by decide +kernel
theorem dX3_takeTopOff_6 : decode cX3_takeTopOff 6 = .ok (.aload_n 0, 1) := by decide +kernel
theorem dX3_takeTopOff_7 : decode cX3_takeTopOff 7 = .ok (.iload_n 1, 1) := by decide +kernel
theorem dX3_takeTopOff_8 : decode cX3_takeTopOff 8 = .ok (.iload_n 2, 1) := by decide +kernel
theorem dX3_takeTopOff_9 : decode cX3_takeTopOff 9 = .ok (.iconst 1, 1) := by decide +kernel
theorem dX3_takeTopOff_10 : decode cX3_takeTopOff 10 = .ok (.isub, 1) := by decide +kernel
theorem dX3_takeTopOff_11 : decode cX3_takeTopOff 11 = .ok (.invokevirtual 116, 3) := by decide +kernel
theorem dX3_takeTopOff_14 : decode cX3_takeTopOff 14 = .ok (.istore_n 3, 1) := by decide +kernel
theorem dX3_takeTopOff_15 : decode cX3_takeTopOff 15 = .ok (.iload_n 3, 1) := by decide +kernel
theorem dX3_takeTopOff_16 : decode cX3_takeTopOff 16 = .ok (.iconst (-1), 1) := by decide +kernel
theorem dX3_takeTopOff_17 : decode cX3_takeTopOff 17 = .ok (.if_icmp .ne 5, 3) := by decide +kernel
