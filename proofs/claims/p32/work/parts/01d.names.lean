theorem dL_low_6 : decode cL_low 6 = .ok (.ireturn, 1) := by decide +kernel
theorem dL_size_0 : decode cL_size 0 = .ok (.iload_n 0, 1) := by decide +kernel
theorem dL_size_1 : decode cL_size 1 = .ok (.ifCond .ge 8, 3) := by decide +kernel
theorem dL_size_4 : decode cL_size 4 = .ok (.iload_n 0, 1) := by decide +kernel
theorem dL_size_5 : decode cL_size 5 = .ok (.ineg, 1) := by decide +kernel
theorem dL_size_6 : decode cL_size 6 = .ok (.goto 4, 3) := by decide +kernel
theorem dL_size_9 : decode cL_size 9 = .ok (.iload_n 0, 1) := by decide +kernel
theorem dL_size_10 : decode cL_size 10 = .ok (.ireturn, 1) := by decide +kernel
set_option maxRecDepth 20000 in
theorem ggL_grade_L_size : GoodIn wsL_grade wsL_size := goodIn_r _ [4] (by decide +kernel) (by decide +kernel)
set_option maxRecDepth 20000 in
theorem gL_grade_L_size : GoodIn wsL_grade (va_wsS RL 9 yL_size wsL_size) := goodIn_app (goodIn_of _ (by decide +kernel)) ggL_grade_L_size
theorem dL_grade_0 : decode cL_grade 0 = .ok (.aload_n 0, 1) := by decide +kernel
theorem dL_grade_1 : decode cL_grade 1 = .ok (.iload_n 2, 1) := by decide +kernel
theorem dL_grade_2 : decode cL_grade 2 = .ok (.iaload, 1) := by decide +kernel
theorem dL_grade_3 : decode cL_grade 3 = .ok (.aload_n 1, 1) := by decide +kernel
theorem dL_grade_4 : decode cL_grade 4 = .ok (.iload_n 2, 1) := by decide +kernel
theorem dL_grade_5 : decode cL_grade 5 = .ok (.iaload, 1) := by decide +kernel
theorem dL_grade_6 : decode cL_grade 6 = .ok (.isub, 1) := by decide +kernel
theorem dL_grade_7 : decode cL_grade 7 = .ok (.invokestatic 9, 3) := by decide +kernel
theorem dL_grade_10 : decode cL_grade 10 = .ok (.istore_n 3, 1) := by decide +kernel
theorem dL_grade_11 : decode cL_grade 11 = .ok (.iload_n 3, 1) := by decide +kernel
theorem dL_grade_12 : decode cL_grade 12 = .ok (.sipush 500, 3) := by decide +kernel
theorem dL_grade_15 : decode cL_grade 15 = .ok (.if_icmp .le 7, 3) := by decide +kernel
theorem dL_grade_18 : decode cL_grade 18 = .ok (.iconst 3, 1) := by decide +kernel
theorem dL_grade_19 : decode cL_grade 19 = .ok (.goto 25, 3) := by decide +kernel
theorem dL_grade_22 : decode cL_grade 22 = .ok (.iload_n 3, 1) := by decide +kernel
theorem dL_grade_23 : decode cL_grade 23 = .ok (.sipush 250, 3) := by decide +kernel
theorem dL_grade_26 : decode cL_grade 26 = .ok (.if_icmp .le 7, 3) := by decide +kernel
theorem dL_grade_29 : decode cL_grade 29 = .ok (.iconst 2, 1) := by decide +kernel
theorem dL_grade_30 : decode cL_grade 30 = .ok (.goto 14, 3) := by decide +kernel
theorem dL_grade_33 : decode cL_grade 33 = .ok (.iload_n 3, 1) := by decide +kernel
theorem dL_grade_34 : decode cL_grade 34 = .ok (.bipush 100, 2) := by decide +kernel
theorem dL_grade_36 : decode cL_grade 36 = .ok (.if_icmp .le 7, 3) := by decide +kernel
theorem dL_grade_39 : decode cL_grade 39 = .ok (.iconst 1, 1) := by decide +kernel
theorem dL_grade_40 : decode cL_grade 40 = .ok (.goto 4, 3) := by decide +kernel
theorem dL_grade_43 : decode cL_grade 43 = .ok (.iconst 0, 1) := by decide +kernel
theorem dL_grade_44 : decode cL_grade 44 = .ok (.ireturn, 1) := by decide +kernel
theorem dL_length_0 : decode cL_length 0 = .ok (.aload_n 0, 1) := by decide +kernel
theorem dL_length_1 : decode cL_length 1 = .ok (.iload_n 3, 1) := by decide +kernel
theorem dL_length_2 : decode cL_length 2 = .ok (.iaload, 1) := by decide +kernel
theorem dL_length_3 : decode cL_length 3 = .ok (.iload 4, 2) := by decide +kernel
theorem dL_length_5 : decode cL_length 5 = .ok (.imul, 1) := by decide +kernel
theorem dL_length_6 : decode cL_length 6 = .ok (.sipush 1000, 3) := by decide +kernel
theorem dL_length_9 : decode cL_length 9 = .ok (.idiv, 1) := by decide +kernel
theorem dL_length_10 : decode cL_length 10 = .ok (.istore 5, 2) := by decide +kernel
theorem dL_length_12 : decode cL_length 12 = .ok (.sipush 1000, 3) := by decide +kernel
theorem dL_length_15 : decode cL_length 15 = .ok (.aload_n 0, 1) := by decide +kernel
theorem dL_length_16 : decode cL_length 16 = .ok (.iload_n 3, 1) := by decide +kernel
theorem dL_length_17 : decode cL_length 17 = .ok (.iaload, 1) := by decide +kernel
theorem dL_length_18 : decode cL_length 18 = .ok (.imul, 1) := by decide +kernel
theorem dL_length_19 : decode cL_length 19 = .ok (.aload_n 1, 1) := by decide +kernel
theorem dL_length_20 : decode cL_length 20 = .ok (.iload_n 3, 1) := by decide +kernel
theorem dL_length_21 : decode cL_length 21 = .ok (.iaload, 1) := by decide +kernel
theorem dL_length_22 : decode cL_length 22 = .ok (.iadd, 1) := by decide +kernel
theorem dL_length_23 : decode cL_length 23 = .ok (.aload_n 2, 1) := by decide +kernel
theorem dL_length_24 : decode cL_length 24 = .ok (.iload_n 3, 1) := by decide +kernel
theorem dL_length_25 : decode cL_length 25 = .ok (.iaload, 1) := by decide +kernel
theorem dL_length_26 : decode cL_length 26 = .ok (.isub, 1) := by decide +kernel
theorem dL_length_27 : decode cL_length 27 = .ok (.iload 5, 2) := by decide +kernel
theorem dL_length_29 : decode cL_length 29 = .ok (.bipush 115, 2) := by decide +kernel
theorem dL_length_31 : decode cL_length 31 = .ok (.imul, 1) := by decide +kernel
theorem dL_length_32 : decode cL_length 32 = .ok (.sipush 1000, 3) := by decide +kernel
theorem dL_length_35 : decode cL_length 35 = .ok (.idiv, 1) := by decide +kernel
theorem dL_length_36 : decode cL_length 36 = .ok (.iadd, 1) := by decide +kernel
theorem dL_length_37 : decode cL_length 37 = .ok (.ireturn, 1) := by decide +kernel
theorem dL_where_0 : decode cL_where 0 = .ok (.iconst (-1), 1) := by decide +kernel
theorem dL_where_1 : decode cL_where 1 = .ok (.istore_n 2, 1) := by decide +kernel
theorem dL_where_2 : decode cL_where 2 = .ok (.iconst 0, 1) := by decide +kernel
theorem dL_where_3 : decode cL_where 3 = .ok (.istore_n 3, 1) := by decide +kernel
theorem dL_where_4 : decode cL_where 4 = .ok (.iload_n 3, 1) := by decide +kernel
theorem dL_where_5 : decode cL_where 5 = .ok (.iconst 3, 1) := by decide +kernel
theorem dL_where_6 : decode cL_where 6 = .ok (.if_icmp .ge 56, 3) := by decide +kernel
theorem dL_where_9 : decode cL_where 9 = .ok (.iconst 0, 1) := by decide +kernel
theorem dL_where_10 : decode cL_where 10 = .ok (.istore 4, 2) := by decide +kernel
theorem dL_where_12 : decode cL_where 12 = .ok (.iload 4, 2) := by decide +kernel
theorem dL_where_14 : decode cL_where 14 = .ok (.aload_n 0, 1) := by decide +kernel
theorem dL_where_15 : decode cL_where 15 = .ok (.bipush 7, 2) := by decide +kernel
theorem dL_where_17 : decode cL_where 17 = .ok (.iload_n 3, 1) := by decide +kernel
theorem dL_where_18 : decode cL_where 18 = .ok (.imul, 1) := by decide +kernel
theorem dL_where_19 : decode cL_where 19 = .ok (.iaload, 1) := by decide +kernel
theorem dL_where_20 : decode cL_where 20 = .ok (.if_icmp .ge 36, 3) := by decide +kernel
theorem dL_where_23 : decode cL_where 23 = .ok (.aload_n 0, 1) := by decide +kernel
theorem dL_where_24 : decode cL_where 24 = .ok (.bipush 7, 2) := by decide +kernel
theorem dL_where_26 : decode cL_where 26 = .ok (.iload_n 3, 1) := by decide +kernel
theorem dL_where_27 : decode cL_where 27 = .ok (.imul, 1) := by decide +kernel
theorem dL_where_28 : decode cL_where 28 = .ok (.iconst 1, 1) := by decide +kernel
theorem dL_where_29 : decode cL_where 29 = .ok (.iadd, 1) := by decide +kernel
theorem dL_where_30 : decode cL_where 30 = .ok (.iload 4, 2) := by decide +kernel
theorem dL_where_32 : decode cL_where 32 = .ok (.iadd, 1) := by decide +kernel
theorem dL_where_33 : decode cL_where 33 = .ok (.iaload, 1) := by decide +kernel
theorem dL_where_34 : decode cL_where 34 = .ok (.iload_n 1, 1) := by decide +kernel
theorem dL_where_35 : decode cL_where 35 = .ok (.if_icmp .ne 13, 3) := by decide +kernel
theorem dL_where_38 : decode cL_where 38 = .ok (.bipush 10, 2) := by decide +kernel
theorem dL_where_40 : decode cL_where 40 = .ok (.iload_n 3, 1) := by decide +kernel
theorem dL_where_41 : decode cL_where 41 = .ok (.imul, 1) := by decide +kernel
theorem dL_where_42 : decode cL_where 42 = .ok (.iload 4, 2) := by decide +kernel
theorem dL_where_44 : decode cL_where 44 = .ok (.iadd, 1) := by decide +kernel
theorem dL_where_45 : decode cL_where 45 = .ok (.goto 4, 3) := by decide +kernel
theorem dL_where_48 : decode cL_where 48 = .ok (.iload_n 2, 1) := by decide +kernel
theorem dL_where_49 : decode cL_where 49 = .ok (.istore_n 2, 1) := by decide +kernel
theorem dL_where_50 : decode cL_where 50 = .ok (.iinc 4 1, 3) := by decide +kernel
theorem dL_where_53 : decode cL_where 53 = .ok (.goto (-41), 3) := by decide +kernel
theorem dL_where_56 : decode cL_where 56 = .ok (.iinc 3 1, 3) := by decide +kernel
theorem dL_where_59 : decode cL_where 59 = .ok (.goto (-55), 3) := by decide +kernel
theorem dL_where_62 : decode cL_where 62 = .ok (.iload_n 2, 1) := by decide +kernel
theorem dL_where_63 : decode cL_where 63 = .ok (.ireturn, 1) := by decide +kernel
theorem dL_cool_0 : decode cL_cool 0 = .ok (.iload_n 0, 1) := by decide +kernel
theorem dL_cool_1 : decode cL_cool 1 = .ok (.istore_n 2, 1) := by decide +kernel
theorem dL_cool_2 : decode cL_cool 2 = .ok (.iconst 0, 1) := by decide +kernel
theorem dL_cool_3 : decode cL_cool 3 = .ok (.istore_n 3, 1) := by decide +kernel
theorem dL_cool_4 : decode cL_cool 4 = .ok (.iload_n 3, 1) := by decide +kernel
theorem dL_cool_5 : decode cL_cool 5 = .ok (.iload_n 1, 1) := by decide +kernel
theorem dL_cool_6 : decode cL_cool 6 = .ok (.if_icmp .ge 33, 3) := by decide +kernel
theorem dL_cool_9 : decode cL_cool 9 = .ok (.iload_n 2, 1) := by decide +kernel
theorem dL_cool_10 : decode cL_cool 10 = .ok (.ifCond .le 29, 3) := by decide +kernel
theorem dL_cool_13 : decode cL_cool 13 = .ok (.iload_n 2, 1) := by decide +kernel
theorem dL_cool_14 : decode cL_cool 14 = .ok (.iload_n 2, 1) := by decide +kernel
theorem dL_cool_15 : decode cL_cool 15 = .ok (.bipush 10, 2) := by decide +kernel
theorem dL_cool_17 : decode cL_cool 17 = .ok (.idiv, 1) := by decide +kernel
theorem dL_cool_18 : decode cL_cool 18 = .ok (.iload_n 2, 1) := by decide +kernel
theorem dL_cool_19 : decode cL_cool 19 = .ok (.bipush 10, 2) := by decide +kernel
theorem dL_cool_21 : decode cL_cool 21 = .ok (.irem, 1) := by decide +kernel
theorem dL_cool_22 : decode cL_cool 22 = .ok (.ifCond .le 7, 3) := by decide +kernel
theorem dL_cool_25 : decode cL_cool 25 = .ok (.iconst 1, 1) := by decide +kernel
theorem dL_cool_26 : decode cL_cool 26 = .ok (.goto 4, 3) := by decide +kernel
theorem dL_cool_29 : decode cL_cool 29 = .ok (.iconst 0, 1) := by decide +kernel
theorem dL_cool_30 : decode cL_cool 30 = .ok (.iadd, 1) := by decide +kernel
theorem dL_cool_31 : decode cL_cool 31 = .ok (.isub, 1) := by decide +kernel
theorem dL_cool_32 : decode cL_cool 32 = .ok (.istore_n 2, 1) := by decide +kernel
theorem dL_cool_33 : decode cL_cool 33 = .ok (.iinc 3 1, 3) := by decide +kernel
theorem dL_cool_36 : decode cL_cool 36 = .ok (.goto (-32), 3) := by decide +kernel
theorem dL_cool_39 : decode cL_cool 39 = .ok (.iload_n 2, 1) := by decide +kernel
theorem dL_cool_40 : decode cL_cool 40 = .ok (.ireturn, 1) := by decide +kernel
set_option maxRecDepth 20000 in
theorem ggL_reason_L_where : GoodIn wsL_reason wsL_where := goodIn_r _ [4] (by decide +kernel) (by decide +kernel)
set_option maxRecDepth 20000 in
theorem gL_reason_L_where : GoodIn wsL_reason (va_wsS RL 15 yL_where wsL_where) := goodIn_app (goodIn_of _ (by decide +kernel)) ggL_reason_L_where
set_option maxRecDepth 20000 in
theorem ggL_reason_L_grade : GoodIn wsL_reason wsL_grade := goodIn_r _ [7, 8, 9, 3, 10] (by decide +kernel) (by decide +kernel)
set_option maxRecDepth 20000 in
theorem gL_reason_L_grade : GoodIn wsL_reason (va_wsS RL 19 yL_grade wsL_grade) := goodIn_app (goodIn_of _ (by decide +kernel)) ggL_reason_L_grade
theorem dL_reason_0 : decode cL_reason 0 = .ok (.aload 4, 2) := by decide +kernel
theorem dL_reason_2 : decode cL_reason 2 = .ok (.iload 6, 2) := by decide +kernel
theorem dL_reason_4 : decode cL_reason 4 = .ok (.invokestatic 15, 3) := by decide +kernel
theorem dL_reason_7 : decode cL_reason 7 = .ok (.iconst (-1), 1) := by decide +kernel
theorem dL_reason_8 : decode cL_reason 8 = .ok (.if_icmp .eq 7, 3) := by decide +kernel
theorem dL_reason_11 : decode cL_reason 11 = .ok (.iconst 1, 1) := by decide +kernel
theorem dL_reason_12 : decode cL_reason 12 = .ok (.goto 49, 3) := by decide +kernel
theorem dL_reason_15 : decode cL_reason 15 = .ok (.aload 4, 2) := by decide +kernel
theorem dL_reason_17 : decode cL_reason 17 = .ok (.bipush 7, 2) := by decide +kernel
theorem dL_reason_19 : decode cL_reason 19 = .ok (.iload 5, 2) := by decide +kernel
theorem dL_reason_21 : decode cL_reason 21 = .ok (.imul, 1) := by decide +kernel
theorem dL_reason_22 : decode cL_reason 22 = .ok (.iaload, 1) := by decide +kernel
theorem dL_reason_23 : decode cL_reason 23 = .ok (.iconst 5, 1) := by decide +kernel
theorem dL_reason_24 : decode cL_reason 24 = .ok (.if_icmp .le 7, 3) := by decide +kernel
theorem dL_reason_27 : decode cL_reason 27 = .ok (.iconst 2, 1) := by decide +kernel
theorem dL_reason_28 : decode cL_reason 28 = .ok (.goto 33, 3) := by decide +kernel
theorem dL_reason_31 : decode cL_reason 31 = .ok (.aload_n 2, 1) := by decide +kernel
theorem dL_reason_32 : decode cL_reason 32 = .ok (.iload 6, 2) := by decide +kernel
theorem dL_reason_34 : decode cL_reason 34 = .ok (.iaload, 1) := by decide +kernel
theorem dL_reason_35 : decode cL_reason 35 = .ok (.aload_n 3, 1) := by decide +kernel
theorem dL_reason_36 : decode cL_reason 36 = .ok (.iconst 1, 1) := by decide +kernel
theorem dL_reason_37 : decode cL_reason 37 = .ok (.iaload, 1) := by decide +kernel
theorem dL_reason_38 : decode cL_reason 38 = .ok (.if_icmp .le 7, 3) := by decide +kernel
theorem dL_reason_41 : decode cL_reason 41 = .ok (.iconst 3, 1) := by decide +kernel
theorem dL_reason_42 : decode cL_reason 42 = .ok (.goto 19, 3) := by decide +kernel
theorem dL_reason_45 : decode cL_reason 45 = .ok (.aload_n 0, 1) := by decide +kernel
theorem dL_reason_46 : decode cL_reason 46 = .ok (.aload_n 1, 1) := by decide +kernel
theorem dL_reason_47 : decode cL_reason 47 = .ok (.iload 6, 2) := by decide +kernel
theorem dL_reason_49 : decode cL_reason 49 = .ok (.invokestatic 19, 3) := by decide +kernel
theorem dL_reason_52 : decode cL_reason 52 = .ok (.iconst 2, 1) := by decide +kernel
theorem dL_reason_53 : decode cL_reason 53 = .ok (.if_icmp .le 7, 3) := by decide +kernel
theorem dL_reason_56 : decode cL_reason 56 = .ok (.iconst 4, 1) := by decide +kernel
theorem dL_reason_57 : decode cL_reason 57 = .ok (.goto 4, 3) := by decide +kernel
theorem dL_reason_60 : decode cL_reason 60 = .ok (.iconst 0, 1) := by decide +kernel
theorem dL_reason_61 : decode cL_reason 61 = .ok (.ireturn, 1) := by decide +kernel
theorem dL_rubs_0 : decode cL_rubs 0 = .ok (.aload_n 3, 1) := by decide +kernel
theorem dL_rubs_1 : decode cL_rubs 1 = .ok (.bipush 7, 2) := by decide +kernel
theorem dL_rubs_3 : decode cL_rubs 3 = .ok (.iload 4, 2) := by decide +kernel
theorem dL_rubs_5 : decode cL_rubs 5 = .ok (.imul, 1) := by decide +kernel
theorem dL_rubs_6 : decode cL_rubs 6 = .ok (.iaload, 1) := by decide +kernel
theorem dL_rubs_7 : decode cL_rubs 7 = .ok (.istore 5, 2) := by decide +kernel
theorem dL_rubs_9 : decode cL_rubs 9 = .ok (.aload_n 3, 1) := by decide +kernel
theorem dL_rubs_10 : decode cL_rubs 10 = .ok (.bipush 7, 2) := by decide +kernel
theorem dL_rubs_12 : decode cL_rubs 12 = .ok (.iload 4, 2) := by decide +kernel
theorem dL_rubs_14 : decode cL_rubs 14 = .ok (.imul, 1) := by decide +kernel
theorem dL_rubs_15 : decode cL_rubs 15 = .ok (.iload 5, 2) := by decide +kernel
theorem dL_rubs_17 : decode cL_rubs 17 = .ok (.iadd, 1) := by decide +kernel
theorem dL_rubs_18 : decode cL_rubs 18 = .ok (.iaload, 1) := by decide +kernel
theorem dL_rubs_19 : decode cL_rubs 19 = .ok (.istore 6, 2) := by decide +kernel
theorem dL_rubs_21 : decode cL_rubs 21 = .ok (.aload_n 1, 1) := by decide +kernel
theorem dL_rubs_22 : decode cL_rubs 22 = .ok (.iload 6, 2) := by decide +kernel
theorem dL_rubs_24 : decode cL_rubs 24 = .ok (.aload_n 1, 1) := by decide +kernel
theorem dL_rubs_25 : decode cL_rubs 25 = .ok (.iload 6, 2) := by decide +kernel
theorem dL_rubs_27 : decode cL_rubs 27 = .ok (.iaload, 1) := by decide +kernel
theorem dL_rubs_28 : decode cL_rubs 28 = .ok (.aload_n 2, 1) := by decide +kernel
theorem dL_rubs_29 : decode cL_rubs 29 = .ok (.iconst 3, 1) := by decide +kernel
theorem dL_rubs_30 : decode cL_rubs 30 = .ok (.iaload, 1) := by decide +kernel
theorem dL_rubs_31 : decode cL_rubs 31 = .ok (.iadd, 1) := by decide +kernel
theorem dL_rubs_32 : decode cL_rubs 32 = .ok (.sipush 1000, 3) := by decide +kernel
theorem dL_rubs_35 : decode cL_rubs 35 = .ok (.if_icmp .ge 14, 3) := by decide +kernel
theorem dL_rubs_38 : decode cL_rubs 38 = .ok (.aload_n 1, 1) := by decide +kernel
theorem dL_rubs_39 : decode cL_rubs 39 = .ok (.iload 6, 2) := by decide +kernel
theorem dL_rubs_41 : decode cL_rubs 41 = .ok (.iaload, 1) := by decide +kernel
theorem dL_rubs_42 : decode cL_rubs 42 = .ok (.aload_n 2, 1) := by decide +kernel
theorem dL_rubs_43 : decode cL_rubs 43 = .ok (.iconst 3, 1) := by decide +kernel
theorem dL_rubs_44 : decode cL_rubs 44 = .ok (.iaload, 1) := by decide +kernel
theorem dL_rubs_45 : decode cL_rubs 45 = .ok (.iadd, 1) := by decide +kernel
theorem dL_rubs_46 : decode cL_rubs 46 = .ok (.goto 6, 3) := by decide +kernel
theorem dL_rubs_49 : decode cL_rubs 49 = .ok (.sipush 1000, 3) := by decide +kernel
theorem dL_rubs_52 : decode cL_rubs 52 = .ok (.iastore, 1) := by decide +kernel
theorem dL_rubs_53 : decode cL_rubs 53 = .ok (.iload 5, 2) := by decide +kernel
theorem dL_rubs_55 : decode cL_rubs 55 = .ok (.iconst 1, 1) := by decide +kernel
theorem dL_rubs_56 : decode cL_rubs 56 = .ok (.if_icmp .le 33, 3) := by decide +kernel
theorem dL_rubs_59 : decode cL_rubs 59 = .ok (.aload_n 0, 1) := by decide +kernel
theorem dL_rubs_60 : decode cL_rubs 60 = .ok (.iload 6, 2) := by decide +kernel
theorem dL_rubs_62 : decode cL_rubs 62 = .ok (.dup2, 1) := by decide +kernel
theorem dL_rubs_63 : decode cL_rubs 63 = .ok (.iaload, 1) := by decide +kernel
theorem dL_rubs_64 : decode cL_rubs 64 = .ok (.aload_n 2, 1) := by decide +kernel
theorem dL_rubs_65 : decode cL_rubs 65 = .ok (.iconst 2, 1) := by decide +kernel
theorem dL_rubs_66 : decode cL_rubs 66 = .ok (.iaload, 1) := by decide +kernel
theorem dL_rubs_67 : decode cL_rubs 67 = .ok (.iadd, 1) := by decide +kernel
theorem dL_rubs_68 : decode cL_rubs 68 = .ok (.iastore, 1) := by decide +kernel
theorem dL_rubs_69 : decode cL_rubs 69 = .ok (.aload_n 0, 1) := by decide +kernel
theorem dL_rubs_70 : decode cL_rubs 70 = .ok (.aload_n 3, 1) := by decide +kernel
theorem dL_rubs_71 : decode cL_rubs 71 = .ok (.bipush 7, 2) := by decide +kernel
theorem dL_rubs_73 : decode cL_rubs 73 = .ok (.iload 4, 2) := by decide +kernel
theorem dL_rubs_75 : decode cL_rubs 75 = .ok (.imul, 1) := by decide +kernel
theorem dL_rubs_76 : decode cL_rubs 76 = .ok (.iload 5, 2) := by decide +kernel
theorem dL_rubs_78 : decode cL_rubs 78 = .ok (.iadd, 1) := by decide +kernel
theorem dL_rubs_79 : decode cL_rubs 79 = .ok (.iconst 1, 1) := by decide +kernel
theorem dL_rubs_80 : decode cL_rubs 80 = .ok (.isub, 1) := by decide +kernel
theorem dL_rubs_81 : decode cL_rubs 81 = .ok (.iaload, 1) := by decide +kernel
theorem dL_rubs_82 : decode cL_rubs 82 = .ok (.dup2, 1) := by decide +kernel
theorem dL_rubs_83 : decode cL_rubs 83 = .ok (.iaload, 1) := by decide +kernel
theorem dL_rubs_84 : decode cL_rubs 84 = .ok (.aload_n 2, 1) := by decide +kernel
theorem dL_rubs_85 : decode cL_rubs 85 = .ok (.iconst 2, 1) := by decide +kernel
theorem dL_rubs_86 : decode cL_rubs 86 = .ok (.iaload, 1) := by decide +kernel
theorem dL_rubs_87 : decode cL_rubs 87 = .ok (.iadd, 1) := by decide +kernel
theorem dL_rubs_88 : decode cL_rubs 88 = .ok (.iastore, 1) := by decide +kernel
theorem dL_rubs_89 : decode cL_rubs 89 = .ok (.return_, 1) := by decide +kernel
set_option maxRecDepth 20000 in
theorem ggL_wrings_L_reason : GoodIn wsL_wrings wsL_reason := goodIn_r _ [4, 5, 6, 3, 7, 8, 9, 10, 11, 12, 13] (by decide +kernel) (by decide +kernel)
set_option maxRecDepth 20000 in
theorem gL_wrings_L_reason : GoodIn wsL_wrings (va_wsS RL 23 yL_reason wsL_reason) := goodIn_app (goodIn_of _ (by decide +kernel)) ggL_wrings_L_reason
set_option maxRecDepth 20000 in
theorem ggL_wrings_L_rubs : GoodIn wsL_wrings wsL_rubs := goodIn_r _ [16] (by decide +kernel) (by decide +kernel)
set_option maxRecDepth 20000 in
theorem gL_wrings_L_rubs : GoodIn wsL_wrings (va_wsS RL 27 yL_rubs wsL_rubs) := goodIn_app (goodIn_of _ (by decide +kernel)) ggL_wrings_L_rubs
theorem dL_wrings_0 : decode cL_wrings 0 = .ok (.aload_n 0, 1) := by decide +kernel
theorem dL_wrings_1 : decode cL_wrings 1 = .ok (.aload_n 1, 1) := by decide +kernel
theorem dL_wrings_2 : decode cL_wrings 2 = .ok (.aload_n 2, 1) := by decide +kernel
theorem dL_wrings_3 : decode cL_wrings 3 = .ok (.aload 4, 2) := by decide +kernel
theorem dL_wrings_5 : decode cL_wrings 5 = .ok (.aload 5, 2) := by decide +kernel
theorem dL_wrings_7 : decode cL_wrings 7 = .ok (.iload 6, 2) := by decide +kernel
theorem dL_wrings_9 : decode cL_wrings 9 = .ok (.iload 7, 2) := by decide +kernel
theorem dL_wrings_11 : decode cL_wrings 11 = .ok (.invokestatic 23, 3) := by decide +kernel
theorem dL_wrings_14 : decode cL_wrings 14 = .ok (.istore 8, 2) := by decide +kernel
theorem dL_wrings_16 : decode cL_wrings 16 = .ok (.iload 8, 2) := by decide +kernel
theorem dL_wrings_18 : decode cL_wrings 18 = .ok (.ifCond .le 15, 3) := by decide +kernel
theorem dL_wrings_21 : decode cL_wrings 21 = .ok (.aload 4, 2) := by decide +kernel
theorem dL_wrings_23 : decode cL_wrings 23 = .ok (.bipush 7, 2) := by decide +kernel
theorem dL_wrings_25 : decode cL_wrings 25 = .ok (.dup2, 1) := by decide +kernel
theorem dL_wrings_26 : decode cL_wrings 26 = .ok (.iaload, 1) := by decide +kernel
theorem dL_wrings_27 : decode cL_wrings 27 = .ok (.iconst 1, 1) := by decide +kernel
theorem dL_wrings_28 : decode cL_wrings 28 = .ok (.iadd, 1) := by decide +kernel
theorem dL_wrings_29 : decode cL_wrings 29 = .ok (.iastore, 1) := by decide +kernel
theorem dL_wrings_30 : decode cL_wrings 30 = .ok (.iload 8, 2) := by decide +kernel
theorem dL_wrings_32 : decode cL_wrings 32 = .ok (.ireturn, 1) := by decide +kernel
theorem dL_wrings_33 : decode cL_wrings 33 = .ok (.aload 5, 2) := by decide +kernel
theorem dL_wrings_35 : decode cL_wrings 35 = .ok (.bipush 7, 2) := by decide +kernel
theorem dL_wrings_37 : decode cL_wrings 37 = .ok (.iload 6, 2) := by decide +kernel
theorem dL_wrings_39 : decode cL_wrings 39 = .ok (.imul, 1) := by decide +kernel
theorem dL_wrings_40 : decode cL_wrings 40 = .ok (.dup2, 1) := by decide +kernel
theorem dL_wrings_41 : decode cL_wrings 41 = .ok (.iaload, 1) := by decide +kernel
theorem dL_wrings_42 : decode cL_wrings 42 = .ok (.iconst 1, 1) := by decide +kernel
theorem dL_wrings_43 : decode cL_wrings 43 = .ok (.iadd, 1) := by decide +kernel
theorem dL_wrings_44 : decode cL_wrings 44 = .ok (.iastore, 1) := by decide +kernel
theorem dL_wrings_45 : decode cL_wrings 45 = .ok (.aload 5, 2) := by decide +kernel
theorem dL_wrings_47 : decode cL_wrings 47 = .ok (.bipush 7, 2) := by decide +kernel
theorem dL_wrings_49 : decode cL_wrings 49 = .ok (.iload 6, 2) := by decide +kernel
theorem dL_wrings_51 : decode cL_wrings 51 = .ok (.imul, 1) := by decide +kernel
theorem dL_wrings_52 : decode cL_wrings 52 = .ok (.aload 5, 2) := by decide +kernel
theorem dL_wrings_54 : decode cL_wrings 54 = .ok (.bipush 7, 2) := by decide +kernel
theorem dL_wrings_56 : decode cL_wrings 56 = .ok (.iload 6, 2) := by decide +kernel
theorem dL_wrings_58 : decode cL_wrings 58 = .ok (.imul, 1) := by decide +kernel
theorem dL_wrings_59 : decode cL_wrings 59 = .ok (.iaload, 1) := by decide +kernel
theorem dL_wrings_60 : decode cL_wrings 60 = .ok (.iadd, 1) := by decide +kernel
theorem dL_wrings_61 : decode cL_wrings 61 = .ok (.iload 7, 2) := by decide +kernel
theorem dL_wrings_63 : decode cL_wrings 63 = .ok (.iastore, 1) := by decide +kernel
theorem dL_wrings_64 : decode cL_wrings 64 = .ok (.aload_n 1, 1) := by decide +kernel
theorem dL_wrings_65 : decode cL_wrings 65 = .ok (.aload_n 2, 1) := by decide +kernel
theorem dL_wrings_66 : decode cL_wrings 66 = .ok (.aload 4, 2) := by decide +kernel
theorem dL_wrings_68 : decode cL_wrings 68 = .ok (.aload 5, 2) := by decide +kernel
theorem dL_wrings_70 : decode cL_wrings 70 = .ok (.iload 6, 2) := by decide +kernel
theorem dL_wrings_72 : decode cL_wrings 72 = .ok (.invokestatic 27, 3) := by decide +kernel
theorem dL_wrings_75 : decode cL_wrings 75 = .ok (.aload_n 3, 1) := by decide +kernel
theorem dL_wrings_76 : decode cL_wrings 76 = .ok (.iload 7, 2) := by decide +kernel
theorem dL_wrings_78 : decode cL_wrings 78 = .ok (.dup2, 1) := by decide +kernel
theorem dL_wrings_79 : decode cL_wrings 79 = .ok (.iaload, 1) := by decide +kernel
theorem dL_wrings_80 : decode cL_wrings 80 = .ok (.iconst 1, 1) := by decide +kernel
theorem dL_wrings_81 : decode cL_wrings 81 = .ok (.iadd, 1) := by decide +kernel
theorem dL_wrings_82 : decode cL_wrings 82 = .ok (.iastore, 1) := by decide +kernel
theorem dL_wrings_83 : decode cL_wrings 83 = .ok (.aload 4, 2) := by decide +kernel
theorem dL_wrings_85 : decode cL_wrings 85 = .ok (.iconst 5, 1) := by decide +kernel
theorem dL_wrings_86 : decode cL_wrings 86 = .ok (.dup2, 1) := by decide +kernel
theorem dL_wrings_87 : decode cL_wrings 87 = .ok (.iaload, 1) := by decide +kernel
theorem dL_wrings_88 : decode cL_wrings 88 = .ok (.iconst 1, 1) := by decide +kernel
theorem dL_wrings_89 : decode cL_wrings 89 = .ok (.iadd, 1) := by decide +kernel
theorem dL_wrings_90 : decode cL_wrings 90 = .ok (.iastore, 1) := by decide +kernel
theorem dL_wrings_91 : decode cL_wrings 91 = .ok (.iconst 0, 1) := by decide +kernel
theorem dL_wrings_92 : decode cL_wrings 92 = .ok (.ireturn, 1) := by decide +kernel
theorem dL_sum_0 : decode cL_sum 0 = .ok (.iconst 0, 1) := by decide +kernel
theorem dL_sum_1 : decode cL_sum 1 = .ok (.istore_n 2, 1) := by decide +kernel
theorem dL_sum_2 : decode cL_sum 2 = .ok (.iconst 0, 1) := by decide +kernel
theorem dL_sum_3 : decode cL_sum 3 = .ok (.istore_n 3, 1) := by decide +kernel
theorem dL_sum_4 : decode cL_sum 4 = .ok (.iload_n 3, 1) := by decide +kernel
theorem dL_sum_5 : decode cL_sum 5 = .ok (.bipush 10, 2) := by decide +kernel
theorem dL_sum_7 : decode cL_sum 7 = .ok (.if_icmp .ge 28, 3) := by decide +kernel
theorem dL_sum_10 : decode cL_sum 10 = .ok (.iload_n 2, 1) := by decide +kernel
theorem dL_sum_11 : decode cL_sum 11 = .ok (.iload_n 1, 1) := by decide +kernel
theorem dL_sum_12 : decode cL_sum 12 = .ok (.iload_n 3, 1) := by decide +kernel
theorem dL_sum_13 : decode cL_sum 13 = .ok (.ishr, 1) := by decide +kernel
theorem dL_sum_14 : decode cL_sum 14 = .ok (.iconst 1, 1) := by decide +kernel
theorem dL_sum_15 : decode cL_sum 15 = .ok (.iand, 1) := by decide +kernel
theorem dL_sum_16 : decode cL_sum 16 = .ok (.iconst 1, 1) := by decide +kernel
theorem dL_sum_17 : decode cL_sum 17 = .ok (.if_icmp .ne 9, 3) := by decide +kernel
theorem dL_sum_20 : decode cL_sum 20 = .ok (.aload_n 0, 1) := by decide +kernel
theorem dL_sum_21 : decode cL_sum 21 = .ok (.iload_n 3, 1) := by decide +kernel
theorem dL_sum_22 : decode cL_sum 22 = .ok (.iaload, 1) := by decide +kernel
theorem dL_sum_23 : decode cL_sum 23 = .ok (.goto 4, 3) := by decide +kernel
theorem dL_sum_26 : decode cL_sum 26 = .ok (.iconst 0, 1) := by decide +kernel
theorem dL_sum_27 : decode cL_sum 27 = .ok (.iadd, 1) := by decide +kernel
theorem dL_sum_28 : decode cL_sum 28 = .ok (.istore_n 2, 1) := by decide +kernel
theorem dL_sum_29 : decode cL_sum 29 = .ok (.iinc 3 1, 3) := by decide +kernel
theorem dL_sum_32 : decode cL_sum 32 = .ok (.goto (-28), 3) := by decide +kernel
theorem dL_sum_35 : decode cL_sum 35 = .ok (.iload_n 2, 1) := by decide +kernel
theorem dL_sum_36 : decode cL_sum 36 = .ok (.ireturn, 1) := by decide +kernel
theorem dL_ones_0 : decode cL_ones 0 = .ok (.iconst 0, 1) := by decide +kernel
theorem dL_ones_1 : decode cL_ones 1 = .ok (.istore_n 1, 1) := by decide +kernel
theorem dL_ones_2 : decode cL_ones 2 = .ok (.iconst 0, 1) := by decide +kernel
theorem dL_ones_3 : decode cL_ones 3 = .ok (.istore_n 2, 1) := by decide +kernel
theorem dL_ones_4 : decode cL_ones 4 = .ok (.iload_n 2, 1) := by decide +kernel
theorem dL_ones_5 : decode cL_ones 5 = .ok (.bipush 20, 2) := by decide +kernel
theorem dL_ones_7 : decode cL_ones 7 = .ok (.if_icmp .ge 17, 3) := by decide +kernel
theorem dL_ones_10 : decode cL_ones 10 = .ok (.iload_n 1, 1) := by decide +kernel
theorem dL_ones_11 : decode cL_ones 11 = .ok (.iload_n 0, 1) := by decide +kernel
theorem dL_ones_12 : decode cL_ones 12 = .ok (.iload_n 2, 1) := by decide +kernel
theorem dL_ones_13 : decode cL_ones 13 = .ok (.ishr, 1) := by decide +kernel
theorem dL_ones_14 : decode cL_ones 14 = .ok (.iconst 1, 1) := by decide +kernel
theorem dL_ones_15 : decode cL_ones 15 = .ok (.iand, 1) := by decide +kernel
theorem dL_ones_16 : decode cL_ones 16 = .ok (.iadd, 1) := by decide +kernel
theorem dL_ones_17 : decode cL_ones 17 = .ok (.istore_n 1, 1) := by decide +kernel
theorem dL_ones_18 : decode cL_ones 18 = .ok (.iinc 2 1, 3) := by decide +kernel
theorem dL_ones_21 : decode cL_ones 21 = .ok (.goto (-17), 3) := by decide +kernel
theorem dL_ones_24 : decode cL_ones 24 = .ok (.iload_n 1, 1) := by decide +kernel
theorem dL_ones_25 : decode cL_ones 25 = .ok (.ireturn, 1) := by decide +kernel
set_option maxRecDepth 20000 in
theorem ggL_free_L_where : GoodIn wsL_free wsL_where := goodIn_r _ [4] (by decide +kernel) (by decide +kernel)
set_option maxRecDepth 20000 in
theorem gL_free_L_where : GoodIn wsL_free (va_wsS RL 15 yL_where wsL_where) := goodIn_app (goodIn_of _ (by decide +kernel)) ggL_free_L_where
theorem dL_free_0 : decode cL_free 0 = .ok (.iconst 0, 1) := by decide +kernel
theorem dL_free_1 : decode cL_free 1 = .ok (.istore_n 2, 1) := by decide +kernel
theorem dL_free_2 : decode cL_free 2 = .ok (.iconst 0, 1) := by decide +kernel
theorem dL_free_3 : decode cL_free 3 = .ok (.istore_n 3, 1) := by decide +kernel
theorem dL_free_4 : decode cL_free 4 = .ok (.iload_n 3, 1) := by decide +kernel
theorem dL_free_5 : decode cL_free 5 = .ok (.aload_n 0, 1) := by decide +kernel
theorem dL_free_6 : decode cL_free 6 = .ok (.bipush 8, 2) := by decide +kernel
theorem dL_free_8 : decode cL_free 8 = .ok (.iaload, 1) := by decide +kernel
theorem dL_free_9 : decode cL_free 9 = .ok (.if_icmp .ge 28, 3) := by decide +kernel
theorem dL_free_12 : decode cL_free 12 = .ok (.iload_n 2, 1) := by decide +kernel
theorem dL_free_13 : decode cL_free 13 = .ok (.aload_n 1, 1) := by decide +kernel
theorem dL_free_14 : decode cL_free 14 = .ok (.iload_n 3, 1) := by decide +kernel
theorem dL_free_15 : decode cL_free 15 = .ok (.invokestatic 15, 3) := by decide +kernel
theorem dL_free_18 : decode cL_free 18 = .ok (.iconst (-1), 1) := by decide +kernel
theorem dL_free_19 : decode cL_free 19 = .ok (.if_icmp .ne 9, 3) := by decide +kernel
theorem dL_free_22 : decode cL_free 22 = .ok (.iconst 1, 1) := by decide +kernel
theorem dL_free_23 : decode cL_free 23 = .ok (.iload_n 3, 1) := by decide +kernel
theorem dL_free_24 : decode cL_free 24 = .ok (.ishl, 1) := by decide +kernel
theorem dL_free_25 : decode cL_free 25 = .ok (.goto 4, 3) := by decide +kernel
theorem dL_free_28 : decode cL_free 28 = .ok (.iconst 0, 1) := by decide +kernel
theorem dL_free_29 : decode cL_free 29 = .ok (.ior, 1) := by decide +kernel
theorem dL_free_30 : decode cL_free 30 = .ok (.istore_n 2, 1) := by decide +kernel
theorem dL_free_31 : decode cL_free 31 = .ok (.iinc 3 1, 3) := by decide +kernel
theorem dL_free_34 : decode cL_free 34 = .ok (.goto (-30), 3) := by decide +kernel
theorem dL_free_37 : decode cL_free 37 = .ok (.iload_n 2, 1) := by decide +kernel
theorem dL_free_38 : decode cL_free 38 = .ok (.ireturn, 1) := by decide +kernel
set_option maxRecDepth 20000 in
theorem ggL_fewest_L_ones : GoodIn wsL_fewest wsL_ones := goodIn_r _ [4] (by decide +kernel) (by decide +kernel)
set_option maxRecDepth 20000 in
theorem gL_fewest_L_ones : GoodIn wsL_fewest (va_wsS RL 31 yL_ones wsL_ones) := goodIn_app (goodIn_of _ (by decide +kernel)) ggL_fewest_L_ones
set_option maxRecDepth 20000 in
theorem ggL_fewest_L_sum : GoodIn wsL_fewest wsL_sum := goodIn_r _ [7] (by decide +kernel) (by decide +kernel)
set_option maxRecDepth 20000 in
theorem gL_fewest_L_sum : GoodIn wsL_fewest (va_wsS RL 34 yL_sum wsL_sum) := goodIn_app (goodIn_of _ (by decide +kernel)) ggL_fewest_L_sum
theorem dL_fewest_0 : decode cL_fewest 0 = .ok (.iconst 0, 1) := by decide +kernel
theorem dL_fewest_1 : decode cL_fewest 1 = .ok (.istore_n 3, 1) := by decide +kernel
theorem dL_fewest_2 : decode cL_fewest 2 = .ok (.iconst 1, 1) := by decide +kernel
theorem dL_fewest_3 : decode cL_fewest 3 = .ok (.istore 4, 2) := by decide +kernel
theorem dL_fewest_5 : decode cL_fewest 5 = .ok (.iload 4, 2) := by decide +kernel
theorem dL_fewest_7 : decode cL_fewest 7 = .ok (.sipush 1024, 3) := by decide +kernel
theorem dL_fewest_10 : decode cL_fewest 10 = .ok (.if_icmp .ge 73, 3) := by decide +kernel
theorem dL_fewest_13 : decode cL_fewest 13 = .ok (.iload 4, 2) := by decide +kernel
theorem dL_fewest_15 : decode cL_fewest 15 = .ok (.iload_n 1, 1) := by decide +kernel
theorem dL_fewest_16 : decode cL_fewest 16 = .ok (.iand, 1) := by decide +kernel
theorem dL_fewest_17 : decode cL_fewest 17 = .ok (.iload 4, 2) := by decide +kernel
theorem dL_fewest_19 : decode cL_fewest 19 = .ok (.if_icmp .ne 27, 3) := by decide +kernel
theorem dL_fewest_22 : decode cL_fewest 22 = .ok (.iload 4, 2) := by decide +kernel
theorem dL_fewest_24 : decode cL_fewest 24 = .ok (.invokestatic 31, 3) := by decide +kernel
theorem dL_fewest_27 : decode cL_fewest 27 = .ok (.bipush 7, 2) := by decide +kernel
theorem dL_fewest_29 : decode cL_fewest 29 = .ok (.if_icmp .ge 17, 3) := by decide +kernel
theorem dL_fewest_32 : decode cL_fewest 32 = .ok (.aload_n 0, 1) := by decide +kernel
theorem dL_fewest_33 : decode cL_fewest 33 = .ok (.iload 4, 2) := by decide +kernel
theorem dL_fewest_35 : decode cL_fewest 35 = .ok (.invokestatic 34, 3) := by decide +kernel
theorem dL_fewest_38 : decode cL_fewest 38 = .ok (.iload_n 2, 1) := by decide +kernel
theorem dL_fewest_39 : decode cL_fewest 39 = .ok (.if_icmp .ne 7, 3) := by decide +kernel
theorem dL_fewest_42 : decode cL_fewest 42 = .ok (.iconst 1, 1) := by decide +kernel
theorem dL_fewest_43 : decode cL_fewest 43 = .ok (.goto 4, 3) := by decide +kernel
theorem dL_fewest_46 : decode cL_fewest 46 = .ok (.iconst 0, 1) := by decide +kernel
theorem dL_fewest_47 : decode cL_fewest 47 = .ok (.istore 5, 2) := by decide +kernel
theorem dL_fewest_49 : decode cL_fewest 49 = .ok (.iload 5, 2) := by decide +kernel
theorem dL_fewest_51 : decode cL_fewest 51 = .ok (.ifCond .eq 24, 3) := by decide +kernel
theorem dL_fewest_54 : decode cL_fewest 54 = .ok (.iload_n 3, 1) := by decide +kernel
theorem dL_fewest_55 : decode cL_fewest 55 = .ok (.ifCond .eq 15, 3) := by decide +kernel
theorem dL_fewest_58 : decode cL_fewest 58 = .ok (.iload 4, 2) := by decide +kernel
theorem dL_fewest_60 : decode cL_fewest 60 = .ok (.invokestatic 31, 3) := by decide +kernel
theorem dL_fewest_63 : decode cL_fewest 63 = .ok (.iload_n 3, 1) := by decide +kernel
theorem dL_fewest_64 : decode cL_fewest 64 = .ok (.invokestatic 31, 3) := by decide +kernel
theorem dL_fewest_67 : decode cL_fewest 67 = .ok (.if_icmp .ge 8, 3) := by decide +kernel
theorem dL_fewest_70 : decode cL_fewest 70 = .ok (.iload 4, 2) := by decide +kernel
theorem dL_fewest_72 : decode cL_fewest 72 = .ok (.goto 4, 3) := by decide +kernel
theorem dL_fewest_75 : decode cL_fewest 75 = .ok (.iload_n 3, 1) := by decide +kernel
theorem dL_fewest_76 : decode cL_fewest 76 = .ok (.istore_n 3, 1) := by decide +kernel
theorem dL_fewest_77 : decode cL_fewest 77 = .ok (.iinc 4 1, 3) := by decide +kernel
theorem dL_fewest_80 : decode cL_fewest 80 = .ok (.goto (-75), 3) := by decide +kernel
theorem dL_fewest_83 : decode cL_fewest 83 = .ok (.iload_n 3, 1) := by decide +kernel
theorem dL_fewest_84 : decode cL_fewest 84 = .ok (.ireturn, 1) := by decide +kernel
set_option maxRecDepth 20000 in
theorem ggL_isOld_L_ones : GoodIn wsL_isOld wsL_ones := goodIn_r _ [4] (by decide +kernel) (by decide +kernel)
set_option maxRecDepth 20000 in
theorem gL_isOld_L_ones : GoodIn wsL_isOld (va_wsS RL 31 yL_ones wsL_ones) := goodIn_app (goodIn_of _ (by decide +kernel)) ggL_isOld_L_ones
set_option maxRecDepth 20000 in
theorem ggL_isOld_X4_oldWay : GoodIn wsL_isOld wsX4_oldWay := goodIn_ca (goodIn_r _ [9, 10, 11, 12, 8, 13, 14, 15, 16, 17, 18, 19, 20, 21, 22, 23, 24, 25, 26, 27, 28, 29, 30, 31, 32, 33, 34, 35, 36, 37, 38, 39, 40, 41, 42, 43, 44, 45, 46, 47, 48, 49, 50, 51, 52, 53, 54, 55, 56, 57, 58, 59, 60, 61, 62, 63, 64, 65, 66, 67] (by decide +kernel) (by decide +kernel)) (goodIn_sub (fun _ h => List.mem_cons_of_mem _ (List.mem_append_right _ h)) (by decide +kernel))
set_option maxRecDepth 20000 in
theorem gL_isOld_X4_oldWay : GoodIn wsL_isOld (wsV RL 37 RX4 yX4_oldWay wsX4_oldWay) := goodIn_app (goodIn_of _ (by decide +kernel)) ggL_isOld_X4_oldWay
theorem dL_isOld_0 : decode cL_isOld 0 = .ok (.iconst 0, 1) := by decide +kernel
theorem dL_isOld_1 : decode cL_isOld 1 = .ok (.istore 4, 2) := by decide +kernel
theorem dL_isOld_3 : decode cL_isOld 3 = .ok (.iload_n 3, 1) := by decide +kernel
theorem dL_isOld_4 : decode cL_isOld 4 = .ok (.istore 5, 2) := by decide +kernel
theorem dL_isOld_6 : decode cL_isOld 6 = .ok (.iconst 0, 1) := by decide +kernel
theorem dL_isOld_7 : decode cL_isOld 7 = .ok (.istore 6, 2) := by decide +kernel
theorem dL_isOld_9 : decode cL_isOld 9 = .ok (.iload 5, 2) := by decide +kernel
theorem dL_isOld_11 : decode cL_isOld 11 = .ok (.ifCond .le 218, 3) := by decide +kernel
theorem dL_isOld_14 : decode cL_isOld 14 = .ok (.iload 6, 2) := by decide +kernel
theorem dL_isOld_16 : decode cL_isOld 16 = .ok (.ifCond .ne 213, 3) := by decide +kernel
theorem dL_isOld_19 : decode cL_isOld 19 = .ok (.iconst 1, 1) := by decide +kernel
theorem dL_isOld_20 : decode cL_isOld 20 = .ok (.istore 7, 2) := by decide +kernel
theorem dL_isOld_22 : decode cL_isOld 22 = .ok (.iload 5, 2) := by decide +kernel
theorem dL_isOld_24 : decode cL_isOld 24 = .ok (.iload 7, 2) := by decide +kernel
theorem dL_isOld_26 : decode cL_isOld 26 = .ok (.idiv, 1) := by decide +kernel
theorem dL_isOld_27 : decode cL_isOld 27 = .ok (.bipush 10, 2) := by decide +kernel
theorem dL_isOld_29 : decode cL_isOld 29 = .ok (.irem, 1) := by decide +kernel
theorem dL_isOld_30 : decode cL_isOld 30 = .ok (.ifCond .ne 13, 3) := by decide +kernel
theorem dL_isOld_33 : decode cL_isOld 33 = .ok (.iload 7, 2) := by decide +kernel
theorem dL_isOld_35 : decode cL_isOld 35 = .ok (.bipush 10, 2) := by decide +kernel
theorem dL_isOld_37 : decode cL_isOld 37 = .ok (.imul, 1) := by decide +kernel
theorem dL_isOld_38 : decode cL_isOld 38 = .ok (.istore 7, 2) := by decide +kernel
theorem dL_isOld_40 : decode cL_isOld 40 = .ok (.goto (-18), 3) := by decide +kernel
theorem dL_isOld_43 : decode cL_isOld 43 = .ok (.iconst (-1), 1) := by decide +kernel
theorem dL_isOld_44 : decode cL_isOld 44 = .ok (.istore 8, 2) := by decide +kernel
theorem dL_isOld_46 : decode cL_isOld 46 = .ok (.bipush 9, 2) := by decide +kernel
theorem dL_isOld_48 : decode cL_isOld 48 = .ok (.istore 9, 2) := by decide +kernel
theorem dL_isOld_50 : decode cL_isOld 50 = .ok (.iload 9, 2) := by decide +kernel
theorem dL_isOld_52 : decode cL_isOld 52 = .ok (.ifCond .lt 115, 3) := by decide +kernel
theorem dL_isOld_55 : decode cL_isOld 55 = .ok (.iload_n 2, 1) := by decide +kernel
theorem dL_isOld_56 : decode cL_isOld 56 = .ok (.iload 9, 2) := by decide +kernel
theorem dL_isOld_58 : decode cL_isOld 58 = .ok (.ishr, 1) := by decide +kernel
theorem dL_isOld_59 : decode cL_isOld 59 = .ok (.iconst 1, 1) := by decide +kernel
theorem dL_isOld_60 : decode cL_isOld 60 = .ok (.iand, 1) := by decide +kernel
theorem dL_isOld_61 : decode cL_isOld 61 = .ok (.iconst 1, 1) := by decide +kernel
theorem dL_isOld_62 : decode cL_isOld 62 = .ok (.if_icmp .ne 65, 3) := by decide +kernel
theorem dL_isOld_65 : decode cL_isOld 65 = .ok (.iload 4, 2) := by decide +kernel
theorem dL_isOld_67 : decode cL_isOld 67 = .ok (.iload 9, 2) := by decide +kernel
theorem dL_isOld_69 : decode cL_isOld 69 = .ok (.ishr, 1) := by decide +kernel
theorem dL_isOld_70 : decode cL_isOld 70 = .ok (.iconst 1, 1) := by decide +kernel
theorem dL_isOld_71 : decode cL_isOld 71 = .ok (.iand, 1) := by decide +kernel
theorem dL_isOld_72 : decode cL_isOld 72 = .ok (.ifCond .ne 55, 3) := by decide +kernel
theorem dL_isOld_75 : decode cL_isOld 75 = .ok (.aload_n 1, 1) := by decide +kernel
theorem dL_isOld_76 : decode cL_isOld 76 = .ok (.iload 9, 2) := by decide +kernel
theorem dL_isOld_78 : decode cL_isOld 78 = .ok (.iaload, 1) := by decide +kernel
theorem dL_isOld_79 : decode cL_isOld 79 = .ok (.iload 5, 2) := by decide +kernel
theorem dL_isOld_81 : decode cL_isOld 81 = .ok (.if_icmp .gt 46, 3) := by decide +kernel
theorem dL_isOld_84 : decode cL_isOld 84 = .ok (.iload 5, 2) := by decide +kernel
theorem dL_isOld_86 : decode cL_isOld 86 = .ok (.aload_n 1, 1) := by decide +kernel
theorem dL_isOld_87 : decode cL_isOld 87 = .ok (.iload 9, 2) := by decide +kernel
theorem dL_isOld_89 : decode cL_isOld 89 = .ok (.iaload, 1) := by decide +kernel
theorem dL_isOld_90 : decode cL_isOld 90 = .ok (.isub, 1) := by decide +kernel
theorem dL_isOld_91 : decode cL_isOld 91 = .ok (.iload 7, 2) := by decide +kernel
theorem dL_isOld_93 : decode cL_isOld 93 = .ok (.idiv, 1) := by decide +kernel
theorem dL_isOld_94 : decode cL_isOld 94 = .ok (.iload 7, 2) := by decide +kernel
theorem dL_isOld_96 : decode cL_isOld 96 = .ok (.imul, 1) := by decide +kernel
theorem dL_isOld_97 : decode cL_isOld 97 = .ok (.iload 5, 2) := by decide +kernel
theorem dL_isOld_99 : decode cL_isOld 99 = .ok (.aload_n 1, 1) := by decide +kernel
theorem dL_isOld_100 : decode cL_isOld 100 = .ok (.iload 9, 2) := by decide +kernel
theorem dL_isOld_102 : decode cL_isOld 102 = .ok (.iaload, 1) := by decide +kernel
theorem dL_isOld_103 : decode cL_isOld 103 = .ok (.isub, 1) := by decide +kernel
theorem dL_isOld_104 : decode cL_isOld 104 = .ok (.if_icmp .ne 23, 3) := by decide +kernel
theorem dL_isOld_107 : decode cL_isOld 107 = .ok (.iload 5, 2) := by decide +kernel
theorem dL_isOld_109 : decode cL_isOld 109 = .ok (.aload_n 1, 1) := by decide +kernel
theorem dL_isOld_110 : decode cL_isOld 110 = .ok (.iload 9, 2) := by decide +kernel
theorem dL_isOld_112 : decode cL_isOld 112 = .ok (.iaload, 1) := by decide +kernel
theorem dL_isOld_113 : decode cL_isOld 113 = .ok (.isub, 1) := by decide +kernel
theorem dL_isOld_114 : decode cL_isOld 114 = .ok (.iload 7, 2) := by decide +kernel
theorem dL_isOld_116 : decode cL_isOld 116 = .ok (.idiv, 1) := by decide +kernel
theorem dL_isOld_117 : decode cL_isOld 117 = .ok (.bipush 10, 2) := by decide +kernel
theorem dL_isOld_119 : decode cL_isOld 119 = .ok (.irem, 1) := by decide +kernel
theorem dL_isOld_120 : decode cL_isOld 120 = .ok (.ifCond .ne 7, 3) := by decide +kernel
theorem dL_isOld_123 : decode cL_isOld 123 = .ok (.iconst 1, 1) := by decide +kernel
theorem dL_isOld_124 : decode cL_isOld 124 = .ok (.goto 4, 3) := by decide +kernel
theorem dL_isOld_127 : decode cL_isOld 127 = .ok (.iconst 0, 1) := by decide +kernel
theorem dL_isOld_128 : decode cL_isOld 128 = .ok (.istore 10, 2) := by decide +kernel
theorem dL_isOld_130 : decode cL_isOld 130 = .ok (.iload 10, 2) := by decide +kernel
theorem dL_isOld_132 : decode cL_isOld 132 = .ok (.ifCond .eq 25, 3) := by decide +kernel
theorem dL_isOld_135 : decode cL_isOld 135 = .ok (.iload 8, 2) := by decide +kernel
theorem dL_isOld_137 : decode cL_isOld 137 = .ok (.iconst (-1), 1) := by decide +kernel
theorem dL_isOld_138 : decode cL_isOld 138 = .ok (.if_icmp .eq 14, 3) := by decide +kernel
theorem dL_isOld_141 : decode cL_isOld 141 = .ok (.aload_n 1, 1) := by decide +kernel
theorem dL_isOld_142 : decode cL_isOld 142 = .ok (.iload 9, 2) := by decide +kernel
theorem dL_isOld_144 : decode cL_isOld 144 = .ok (.iaload, 1) := by decide +kernel
theorem dL_isOld_145 : decode cL_isOld 145 = .ok (.aload_n 1, 1) := by decide +kernel
theorem dL_isOld_146 : decode cL_isOld 146 = .ok (.iload 8, 2) := by decide +kernel
theorem dL_isOld_148 : decode cL_isOld 148 = .ok (.iaload, 1) := by decide +kernel
theorem dL_isOld_149 : decode cL_isOld 149 = .ok (.if_icmp .lt 8, 3) := by decide +kernel
theorem dL_isOld_152 : decode cL_isOld 152 = .ok (.iload 9, 2) := by decide +kernel
theorem dL_isOld_154 : decode cL_isOld 154 = .ok (.goto 5, 3) := by decide +kernel
theorem dL_isOld_157 : decode cL_isOld 157 = .ok (.iload 8, 2) := by decide +kernel
theorem dL_isOld_159 : decode cL_isOld 159 = .ok (.istore 8, 2) := by decide +kernel
theorem dL_isOld_161 : decode cL_isOld 161 = .ok (.iinc 9 (-1), 3) := by decide +kernel
theorem dL_isOld_164 : decode cL_isOld 164 = .ok (.goto (-114), 3) := by decide +kernel
theorem dL_isOld_167 : decode cL_isOld 167 = .ok (.iload 8, 2) := by decide +kernel
theorem dL_isOld_169 : decode cL_isOld 169 = .ok (.iconst (-1), 1) := by decide +kernel
theorem dL_isOld_170 : decode cL_isOld 170 = .ok (.if_icmp .eq 13, 3) := by decide +kernel
theorem dL_isOld_173 : decode cL_isOld 173 = .ok (.iload 4, 2) := by decide +kernel
theorem dL_isOld_175 : decode cL_isOld 175 = .ok (.invokestatic 31, 3) := by decide +kernel
theorem dL_isOld_178 : decode cL_isOld 178 = .ok (.bipush 6, 2) := by decide +kernel
theorem dL_isOld_180 : decode cL_isOld 180 = .ok (.if_icmp .ne 7, 3) := by decide +kernel
theorem dL_isOld_183 : decode cL_isOld 183 = .ok (.iconst 1, 1) := by decide +kernel
theorem dL_isOld_184 : decode cL_isOld 184 = .ok (.goto 4, 3) := by decide +kernel
theorem dL_isOld_187 : decode cL_isOld 187 = .ok (.iconst 0, 1) := by decide +kernel
theorem dL_isOld_188 : decode cL_isOld 188 = .ok (.istore 6, 2) := by decide +kernel
theorem dL_isOld_190 : decode cL_isOld 190 = .ok (.iload 4, 2) := by decide +kernel
theorem dL_isOld_192 : decode cL_isOld 192 = .ok (.iload 6, 2) := by decide +kernel
theorem dL_isOld_194 : decode cL_isOld 194 = .ok (.ifCond .eq 7, 3) := by decide +kernel
theorem dL_isOld_197 : decode cL_isOld 197 = .ok (.iconst 0, 1) := by decide +kernel
theorem dL_isOld_198 : decode cL_isOld 198 = .ok (.goto 7, 3) := by decide +kernel
theorem dL_isOld_201 : decode cL_isOld 201 = .ok (.iconst 1, 1) := by decide +kernel
theorem dL_isOld_202 : decode cL_isOld 202 = .ok (.iload 8, 2) := by decide +kernel
theorem dL_isOld_204 : decode cL_isOld 204 = .ok (.ishl, 1) := by decide +kernel
theorem dL_isOld_205 : decode cL_isOld 205 = .ok (.ior, 1) := by decide +kernel
theorem dL_isOld_206 : decode cL_isOld 206 = .ok (.istore 4, 2) := by decide +kernel
theorem dL_isOld_208 : decode cL_isOld 208 = .ok (.iload 5, 2) := by decide +kernel
theorem dL_isOld_210 : decode cL_isOld 210 = .ok (.iload 6, 2) := by decide +kernel
theorem dL_isOld_212 : decode cL_isOld 212 = .ok (.ifCond .eq 7, 3) := by decide +kernel
theorem dL_isOld_215 : decode cL_isOld 215 = .ok (.iconst 0, 1) := by decide +kernel
theorem dL_isOld_216 : decode cL_isOld 216 = .ok (.goto 7, 3) := by decide +kernel
theorem dL_isOld_219 : decode cL_isOld 219 = .ok (.aload_n 1, 1) := by decide +kernel
theorem dL_isOld_220 : decode cL_isOld 220 = .ok (.iload 8, 2) := by decide +kernel
theorem dL_isOld_222 : decode cL_isOld 222 = .ok (.iaload, 1) := by decide +kernel
theorem dL_isOld_223 : decode cL_isOld 223 = .ok (.isub, 1) := by decide +kernel
theorem dL_isOld_224 : decode cL_isOld 224 = .ok (.istore 5, 2) := by decide +kernel
theorem dL_isOld_226 : decode cL_isOld 226 = .ok (.goto (-217), 3) := by decide +kernel
theorem dL_isOld_229 : decode cL_isOld 229 = .ok (.aload_n 0, 1) := by decide +kernel
theorem dL_isOld_230 : decode cL_isOld 230 = .ok (.iload_n 3, 1) := by decide +kernel
theorem dL_isOld_231 : decode cL_isOld 231 = .ok (.iconst 0, 1) := by decide +kernel
theorem dL_isOld_232 : decode cL_isOld 232 = .ok (.invokevirtual 37, 3) := by decide +kernel
theorem dL_isOld_235 : decode cL_isOld 235 = .ok (.iload 6, 2) := by decide +kernel
theorem dL_isOld_237 : decode cL_isOld 237 = .ok (.ifCond .eq 7, 3) := by decide +kernel
theorem dL_isOld_240 : decode cL_isOld 240 = .ok (.iconst (-1), 1) := by decide +kernel
theorem dL_isOld_241 : decode cL_isOld 241 = .ok (.goto 8, 3) := by decide +kernel
theorem dL_isOld_244 : decode cL_isOld 244 = .ok (.iload 4, 2) := by decide +kernel
theorem dL_isOld_246 : decode cL_isOld 246 = .ok (.invokestatic 31, 3) := by decide +kernel
theorem dL_isOld_249 : decode cL_isOld 249 = .ok (.if_icmp .ne 38, 3) := by decide +kernel
theorem dL_isOld_252 : decode cL_isOld 252 = .ok (.aload_n 0, 1) := by decide +kernel
theorem dL_isOld_253 : decode cL_isOld 253 = .ok (.iload_n 3, 1) := by decide +kernel
theorem dL_isOld_254 : decode cL_isOld 254 = .ok (.iconst 1, 1) := by decide +kernel
theorem dL_isOld_255 : decode cL_isOld 255 = .ok (.invokevirtual 37, 3) := by decide +kernel
theorem dL_isOld_258 : decode cL_isOld 258 = .ok (.iload 6, 2) := by decide +kernel
theorem dL_isOld_260 : decode cL_isOld 260 = .ok (.ifCond .eq 7, 3) := by decide +kernel
theorem dL_isOld_263 : decode cL_isOld 263 = .ok (.iconst (-1), 1) := by decide +kernel
theorem dL_isOld_264 : decode cL_isOld 264 = .ok (.goto 5, 3) := by decide +kernel
theorem dL_isOld_267 : decode cL_isOld 267 = .ok (.iload 4, 2) := by decide +kernel
theorem dL_isOld_269 : decode cL_isOld 269 = .ok (.if_icmp .ne 18, 3) := by decide +kernel
theorem dL_isOld_272 : decode cL_isOld 272 = .ok (.aload_n 0, 1) := by decide +kernel
theorem dL_isOld_273 : decode cL_isOld 273 = .ok (.iload_n 3, 1) := by decide +kernel
theorem dL_isOld_274 : decode cL_isOld 274 = .ok (.iconst 2, 1) := by decide +kernel
theorem dL_isOld_275 : decode cL_isOld 275 = .ok (.invokevirtual 37, 3) := by decide +kernel
theorem dL_isOld_278 : decode cL_isOld 278 = .ok (.iload 5, 2) := by decide +kernel
theorem dL_isOld_280 : decode cL_isOld 280 = .ok (.if_icmp .ne 7, 3) := by decide +kernel
theorem dL_isOld_283 : decode cL_isOld 283 = .ok (.iconst 1, 1) := by decide +kernel
theorem dL_isOld_284 : decode cL_isOld 284 = .ok (.goto 4, 3) := by decide +kernel
theorem dL_isOld_287 : decode cL_isOld 287 = .ok (.iconst 0, 1) := by decide +kernel
theorem dL_isOld_288 : decode cL_isOld 288 = .ok (.ireturn, 1) := by decide +kernel
set_option maxRecDepth 20000 in
theorem ggL_nearest_L_ones : GoodIn wsL_nearest wsL_ones := goodIn_r _ [4] (by decide +kernel) (by decide +kernel)
set_option maxRecDepth 20000 in
theorem gL_nearest_L_ones : GoodIn wsL_nearest (va_wsS RL 31 yL_ones wsL_ones) := goodIn_app (goodIn_of _ (by decide +kernel)) ggL_nearest_L_ones
set_option maxRecDepth 20000 in
theorem ggL_nearest_L_sum : GoodIn wsL_nearest wsL_sum := goodIn_r _ [7] (by decide +kernel) (by decide +kernel)
set_option maxRecDepth 20000 in
theorem gL_nearest_L_sum : GoodIn wsL_nearest (va_wsS RL 34 yL_sum wsL_sum) := goodIn_app (goodIn_of _ (by decide +kernel)) ggL_nearest_L_sum
set_option maxRecDepth 20000 in
theorem ggL_nearest_L_size : GoodIn wsL_nearest wsL_size := goodIn_r _ [10] (by decide +kernel) (by decide +kernel)
set_option maxRecDepth 20000 in
theorem gL_nearest_L_size : GoodIn wsL_nearest (va_wsS RL 9 yL_size wsL_size) := goodIn_app (goodIn_of _ (by decide +kernel)) ggL_nearest_L_size
theorem dL_nearest_0 : decode cL_nearest 0 = .ok (.iconst (-1), 1) := by decide +kernel
theorem dL_nearest_1 : decode cL_nearest 1 = .ok (.istore_n 3, 1) := by decide +kernel
theorem dL_nearest_2 : decode cL_nearest 2 = .ok (.iconst 1, 1) := by decide +kernel
theorem dL_nearest_3 : decode cL_nearest 3 = .ok (.istore 4, 2) := by decide +kernel
theorem dL_nearest_5 : decode cL_nearest 5 = .ok (.iload 4, 2) := by decide +kernel
theorem dL_nearest_7 : decode cL_nearest 7 = .ok (.sipush 1024, 3) := by decide +kernel
theorem dL_nearest_10 : decode cL_nearest 10 = .ok (.if_icmp .ge 85, 3) := by decide +kernel
theorem dL_nearest_13 : decode cL_nearest 13 = .ok (.iload 4, 2) := by decide +kernel
theorem dL_nearest_15 : decode cL_nearest 15 = .ok (.iload_n 1, 1) := by decide +kernel
theorem dL_nearest_16 : decode cL_nearest 16 = .ok (.iand, 1) := by decide +kernel
theorem dL_nearest_17 : decode cL_nearest 17 = .ok (.iload 4, 2) := by decide +kernel
theorem dL_nearest_19 : decode cL_nearest 19 = .ok (.if_icmp .ne 70, 3) := by decide +kernel
theorem dL_nearest_22 : decode cL_nearest 22 = .ok (.iload 4, 2) := by decide +kernel
theorem dL_nearest_24 : decode cL_nearest 24 = .ok (.invokestatic 31, 3) := by decide +kernel
theorem dL_nearest_27 : decode cL_nearest 27 = .ok (.iconst 3, 1) := by decide +kernel
theorem dL_nearest_28 : decode cL_nearest 28 = .ok (.if_icmp .ge 61, 3) := by decide +kernel
theorem dL_nearest_31 : decode cL_nearest 31 = .ok (.aload_n 0, 1) := by decide +kernel
theorem dL_nearest_32 : decode cL_nearest 32 = .ok (.iload 4, 2) := by decide +kernel
theorem dL_nearest_34 : decode cL_nearest 34 = .ok (.invokestatic 34, 3) := by decide +kernel
theorem dL_nearest_37 : decode cL_nearest 37 = .ok (.istore 5, 2) := by decide +kernel
theorem dL_nearest_39 : decode cL_nearest 39 = .ok (.iload_n 3, 1) := by decide +kernel
theorem dL_nearest_40 : decode cL_nearest 40 = .ok (.iconst (-1), 1) := by decide +kernel
theorem dL_nearest_41 : decode cL_nearest 41 = .ok (.if_icmp .eq 41, 3) := by decide +kernel
theorem dL_nearest_44 : decode cL_nearest 44 = .ok (.iload 5, 2) := by decide +kernel
theorem dL_nearest_46 : decode cL_nearest 46 = .ok (.iload_n 2, 1) := by decide +kernel
theorem dL_nearest_47 : decode cL_nearest 47 = .ok (.isub, 1) := by decide +kernel
theorem dL_nearest_48 : decode cL_nearest 48 = .ok (.invokestatic 9, 3) := by decide +kernel
theorem dL_nearest_51 : decode cL_nearest 51 = .ok (.iload_n 3, 1) := by decide +kernel
theorem dL_nearest_52 : decode cL_nearest 52 = .ok (.iload_n 2, 1) := by decide +kernel
theorem dL_nearest_53 : decode cL_nearest 53 = .ok (.isub, 1) := by decide +kernel
theorem dL_nearest_54 : decode cL_nearest 54 = .ok (.invokestatic 9, 3) := by decide +kernel
theorem dL_nearest_57 : decode cL_nearest 57 = .ok (.if_icmp .lt 25, 3) := by decide +kernel
theorem dL_nearest_60 : decode cL_nearest 60 = .ok (.iload 5, 2) := by decide +kernel
theorem dL_nearest_62 : decode cL_nearest 62 = .ok (.iload_n 2, 1) := by decide +kernel
theorem dL_nearest_63 : decode cL_nearest 63 = .ok (.isub, 1) := by decide +kernel
theorem dL_nearest_64 : decode cL_nearest 64 = .ok (.invokestatic 9, 3) := by decide +kernel
theorem dL_nearest_67 : decode cL_nearest 67 = .ok (.iload_n 3, 1) := by decide +kernel
theorem dL_nearest_68 : decode cL_nearest 68 = .ok (.iload_n 2, 1) := by decide +kernel
theorem dL_nearest_69 : decode cL_nearest 69 = .ok (.isub, 1) := by decide +kernel
theorem dL_nearest_70 : decode cL_nearest 70 = .ok (.invokestatic 9, 3) := by decide +kernel
theorem dL_nearest_73 : decode cL_nearest 73 = .ok (.if_icmp .ne 14, 3) := by decide +kernel
theorem dL_nearest_76 : decode cL_nearest 76 = .ok (.iload 5, 2) := by decide +kernel
theorem dL_nearest_78 : decode cL_nearest 78 = .ok (.iload_n 3, 1) := by decide +kernel
theorem dL_nearest_79 : decode cL_nearest 79 = .ok (.if_icmp .ge 8, 3) := by decide +kernel
theorem dL_nearest_82 : decode cL_nearest 82 = .ok (.iload 5, 2) := by decide +kernel
theorem dL_nearest_84 : decode cL_nearest 84 = .ok (.goto 4, 3) := by decide +kernel
theorem dL_nearest_87 : decode cL_nearest 87 = .ok (.iload_n 3, 1) := by decide +kernel
theorem dL_nearest_88 : decode cL_nearest 88 = .ok (.istore_n 3, 1) := by decide +kernel
theorem dL_nearest_89 : decode cL_nearest 89 = .ok (.iinc 4 1, 3) := by decide +kernel
theorem dL_nearest_92 : decode cL_nearest 92 = .ok (.goto (-87), 3) := by decide +kernel
theorem dL_nearest_95 : decode cL_nearest 95 = .ok (.iload_n 3, 1) := by decide +kernel
theorem dL_nearest_96 : decode cL_nearest 96 = .ok (.ireturn, 1) := by decide +kernel
set_option maxRecDepth 20000 in
theorem ggL_areBlocks_X4_count : GoodIn wsL_areBlocks wsX4_count := goodIn_ca (goodIn_r _ [5, 6, 7, 8, 9, 10, 11, 12, 13, 14, 15, 16, 17, 18, 19, 20, 21, 22, 23, 24, 25, 26, 27, 28, 29, 30, 31, 32, 33, 34, 35, 36, 37, 38, 39, 40, 41, 42, 43, 44, 45, 46, 47, 48, 49, 50, 126, 127, 128, 129, 130, 131, 132, 133, 134, 135, 136, 137, 138, 139, 140, 141, 142, 143, 144, 145, 146, 147, 148, 149, 150] (by decide +kernel) (by decide +kernel)) (goodIn_sub (fun _ h => List.mem_cons_of_mem _ (List.mem_append_left _ (List.mem_append_right _ h))) (by decide +kernel))
set_option maxRecDepth 20000 in
theorem gL_areBlocks_X4_count : GoodIn wsL_areBlocks (wsV RL 43 RX4 yX4_count wsX4_count) := goodIn_app (goodIn_of _ (by decide +kernel)) ggL_areBlocks_X4_count
set_option maxRecDepth 20000 in
theorem ggL_areBlocks_L_where : GoodIn wsL_areBlocks wsL_where := goodIn_r _ [54] (by decide +kernel) (by decide +kernel)
set_option maxRecDepth 20000 in
theorem gL_areBlocks_L_where : GoodIn wsL_areBlocks (va_wsS RL 15 yL_where wsL_where) := goodIn_app (goodIn_of _ (by decide +kernel)) ggL_areBlocks_L_where
set_option maxRecDepth 20000 in
theorem ggL_areBlocks_X4_blockOf : GoodIn wsL_areBlocks wsX4_blockOf := goodIn_ca (goodIn_ca (goodIn_r _ [58, 6, 7, 8, 59, 60, 61, 62, 63, 64, 65, 66, 67, 4, 68, 69, 70, 71, 72, 73, 21, 74, 23, 75, 47, 48, 49, 50, 29, 76, 35, 36, 37, 38, 39, 40, 41, 42, 43, 44, 45, 46, 77, 78, 79, 80, 81, 82, 83, 84, 85, 126, 127, 128, 129, 130, 131, 132, 133, 134, 135, 136, 137, 138, 139, 140, 141, 142] (by decide +kernel) (by decide +kernel)) (goodIn_sub (fun _ h => List.mem_cons_of_mem _ (List.mem_append_left _ (List.mem_append_right _ h))) (by decide +kernel))) (goodIn_sub (fun _ h => List.mem_cons_of_mem _ (List.mem_append_right _ h)) (by decide +kernel))
set_option maxRecDepth 20000 in
theorem gL_areBlocks_X4_blockOf : GoodIn wsL_areBlocks (wsV RL 46 RX4 yX4_blockOf wsX4_blockOf) := goodIn_app (goodIn_of _ (by decide +kernel)) ggL_areBlocks_X4_blockOf
set_option maxRecDepth 20000 in
theorem ggL_areBlocks_L_grade : GoodIn wsL_areBlocks wsL_grade := goodIn_r _ [88, 89, 90, 53, 91] (by decide +kernel) (by decide +kernel)
set_option maxRecDepth 20000 in
theorem gL_areBlocks_L_grade : GoodIn wsL_areBlocks (va_wsS RL 19 yL_grade wsL_grade) := goodIn_app (goodIn_of _ (by decide +kernel)) ggL_areBlocks_L_grade
set_option maxRecDepth 20000 in
theorem ggL_areBlocks_L_length : GoodIn wsL_areBlocks wsL_length := goodIn_r _ [94] (by decide +kernel) (by decide +kernel)
set_option maxRecDepth 20000 in
theorem gL_areBlocks_L_length : GoodIn wsL_areBlocks (va_wsS RL 49 yL_length wsL_length) := goodIn_app (goodIn_of _ (by decide +kernel)) ggL_areBlocks_L_length
set_option maxRecDepth 20000 in
theorem ggL_areBlocks_L_cool : GoodIn wsL_areBlocks wsL_cool := goodIn_r _ [97] (by decide +kernel) (by decide +kernel)
set_option maxRecDepth 20000 in
theorem gL_areBlocks_L_cool : GoodIn wsL_areBlocks (va_wsS RL 53 yL_cool wsL_cool) := goodIn_app (goodIn_of _ (by decide +kernel)) ggL_areBlocks_L_cool
set_option maxRecDepth 20000 in
theorem ggL_areBlocks_X4_coolIn : GoodIn wsL_areBlocks wsX4_coolIn := goodIn_ca (goodIn_r _ [101, 8, 65, 66, 67, 4, 68, 69, 70, 71, 72, 73, 21, 74, 23, 102, 103, 104, 105, 81, 106, 83, 84, 85, 126, 127, 128, 129, 130, 131, 132, 133, 134, 135, 136, 137, 138, 139, 140, 141, 142] (by decide +kernel) (by decide +kernel)) (goodIn_sub (fun _ h => List.mem_cons_of_mem _ (List.mem_append_right _ h)) (by decide +kernel))
set_option maxRecDepth 20000 in
theorem gL_areBlocks_X4_coolIn : GoodIn wsL_areBlocks (wsV RL 56 RX4 yX4_coolIn wsX4_coolIn) := goodIn_app (goodIn_of _ (by decide +kernel)) ggL_areBlocks_X4_coolIn
set_option maxRecDepth 20000 in
theorem ggL_areBlocks_L_size : GoodIn wsL_areBlocks wsL_size := goodIn_r _ [91] (by decide +kernel) (by decide +kernel)
set_option maxRecDepth 20000 in
theorem gL_areBlocks_L_size : GoodIn wsL_areBlocks (va_wsS RL 9 yL_size wsL_size) := goodIn_app (goodIn_of _ (by decide +kernel)) ggL_areBlocks_L_size
set_option maxRecDepth 20000 in
theorem ggL_areBlocks_L_free : GoodIn wsL_areBlocks wsL_free := goodIn_r _ [109, 51, 52, 53, 54] (by decide +kernel) (by decide +kernel)
set_option maxRecDepth 20000 in
theorem gL_areBlocks_L_free : GoodIn wsL_areBlocks (va_wsS RL 59 yL_free wsL_free) := goodIn_app (goodIn_of _ (by decide +kernel)) ggL_areBlocks_L_free
set_option maxRecDepth 20000 in
theorem ggL_areBlocks_X4_setting : GoodIn wsL_areBlocks wsX4_setting := goodIn_ca (goodIn_r _ [113, 8, 114, 115, 116, 4, 117, 69, 70, 126, 127, 128, 129, 130, 131, 132, 133, 134, 135, 136, 137, 138, 139, 140, 141, 142] (by decide +kernel) (by decide +kernel)) (goodIn_sub (fun _ h => List.mem_cons_of_mem _ (List.mem_append_right _ h)) (by decide +kernel))
set_option maxRecDepth 20000 in
theorem gL_areBlocks_X4_setting : GoodIn wsL_areBlocks (wsV RL 63 RX4 yX4_setting wsX4_setting) := goodIn_app (goodIn_of _ (by decide +kernel)) ggL_areBlocks_X4_setting
set_option maxRecDepth 20000 in
theorem ggL_areBlocks_X4_meanError : GoodIn wsL_areBlocks wsX4_meanError := goodIn_r _ [121, 8, 9, 122, 123, 124, 21, 125, 23, 38, 39, 40, 41, 42, 43, 44, 45, 46, 47, 48, 49, 50, 29, 126, 127, 128, 129, 130, 131, 132, 133, 134, 135, 136, 137, 138, 139, 140, 141, 142] (by decide +kernel) (by decide +kernel)
set_option maxRecDepth 20000 in
theorem gL_areBlocks_X4_meanError : GoodIn wsL_areBlocks (wsV RL 66 RX4 yX4_meanError wsX4_meanError) := goodIn_app (goodIn_of _ (by decide +kernel)) ggL_areBlocks_X4_meanError
theorem dL_areBlocks_0 : decode cL_areBlocks 0 = .ok (.iconst 0, 1) := by decide +kernel
theorem dL_areBlocks_1 : decode cL_areBlocks 1 = .ok (.istore 8, 2) := by decide +kernel
theorem dL_areBlocks_3 : decode cL_areBlocks 3 = .ok (.iconst 0, 1) := by decide +kernel
theorem dL_areBlocks_4 : decode cL_areBlocks 4 = .ok (.istore 9, 2) := by decide +kernel
theorem dL_areBlocks_6 : decode cL_areBlocks 6 = .ok (.iconst 0, 1) := by decide +kernel
theorem dL_areBlocks_7 : decode cL_areBlocks 7 = .ok (.istore 10, 2) := by decide +kernel
theorem dL_areBlocks_9 : decode cL_areBlocks 9 = .ok (.aload_n 0, 1) := by decide +kernel
theorem dL_areBlocks_10 : decode cL_areBlocks 10 = .ok (.iconst 0, 1) := by decide +kernel
theorem dL_areBlocks_11 : decode cL_areBlocks 11 = .ok (.invokevirtual 43, 3) := by decide +kernel
theorem dL_areBlocks_14 : decode cL_areBlocks 14 = .ok (.aload 6, 2) := by decide +kernel
theorem dL_areBlocks_16 : decode cL_areBlocks 16 = .ok (.bipush 8, 2) := by decide +kernel
theorem dL_areBlocks_18 : decode cL_areBlocks 18 = .ok (.iaload, 1) := by decide +kernel
theorem dL_areBlocks_19 : decode cL_areBlocks 19 = .ok (.if_icmp .ne 7, 3) := by decide +kernel
theorem dL_areBlocks_22 : decode cL_areBlocks 22 = .ok (.iconst 1, 1) := by decide +kernel
theorem dL_areBlocks_23 : decode cL_areBlocks 23 = .ok (.goto 4, 3) := by decide +kernel
theorem dL_areBlocks_26 : decode cL_areBlocks 26 = .ok (.iconst 0, 1) := by decide +kernel
theorem dL_areBlocks_27 : decode cL_areBlocks 27 = .ok (.istore 11, 2) := by decide +kernel
theorem dL_areBlocks_29 : decode cL_areBlocks 29 = .ok (.iconst 0, 1) := by decide +kernel
theorem dL_areBlocks_30 : decode cL_areBlocks 30 = .ok (.istore 12, 2) := by decide +kernel
theorem dL_areBlocks_32 : decode cL_areBlocks 32 = .ok (.iload 12, 2) := by decide +kernel
theorem dL_areBlocks_34 : decode cL_areBlocks 34 = .ok (.aload 6, 2) := by decide +kernel
theorem dL_areBlocks_36 : decode cL_areBlocks 36 = .ok (.bipush 8, 2) := by decide +kernel
theorem dL_areBlocks_38 : decode cL_areBlocks 38 = .ok (.iaload, 1) := by decide +kernel
theorem dL_areBlocks_39 : decode cL_areBlocks 39 = .ok (.if_icmp .ge 303, 3) := by decide +kernel
theorem dL_areBlocks_42 : decode cL_areBlocks 42 = .ok (.iload 11, 2) := by decide +kernel
theorem dL_areBlocks_44 : decode cL_areBlocks 44 = .ok (.ifCond .eq 298, 3) := by decide +kernel
theorem dL_areBlocks_47 : decode cL_areBlocks 47 = .ok (.aload 7, 2) := by decide +kernel
theorem dL_areBlocks_49 : decode cL_areBlocks 49 = .ok (.iload 12, 2) := by decide +kernel
theorem dL_areBlocks_51 : decode cL_areBlocks 51 = .ok (.invokestatic 15, 3) := by decide +kernel
theorem dL_areBlocks_54 : decode cL_areBlocks 54 = .ok (.istore 13, 2) := by decide +kernel
theorem dL_areBlocks_56 : decode cL_areBlocks 56 = .ok (.aload_n 0, 1) := by decide +kernel
theorem dL_areBlocks_57 : decode cL_areBlocks 57 = .ok (.iload 12, 2) := by decide +kernel
theorem dL_areBlocks_59 : decode cL_areBlocks 59 = .ok (.iconst 0, 1) := by decide +kernel
theorem dL_areBlocks_60 : decode cL_areBlocks 60 = .ok (.invokevirtual 46, 3) := by decide +kernel
theorem dL_areBlocks_63 : decode cL_areBlocks 63 = .ok (.aload_n 1, 1) := by decide +kernel
theorem dL_areBlocks_64 : decode cL_areBlocks 64 = .ok (.iload 12, 2) := by decide +kernel
theorem dL_areBlocks_66 : decode cL_areBlocks 66 = .ok (.iaload, 1) := by decide +kernel
theorem dL_areBlocks_67 : decode cL_areBlocks 67 = .ok (.if_icmp .ne 167, 3) := by decide +kernel
theorem dL_areBlocks_70 : decode cL_areBlocks 70 = .ok (.aload_n 0, 1) := by decide +kernel
theorem dL_areBlocks_71 : decode cL_areBlocks 71 = .ok (.iload 12, 2) := by decide +kernel
theorem dL_areBlocks_73 : decode cL_areBlocks 73 = .ok (.iconst 1, 1) := by decide +kernel
theorem dL_areBlocks_74 : decode cL_areBlocks 74 = .ok (.invokevirtual 46, 3) := by decide +kernel
theorem dL_areBlocks_77 : decode cL_areBlocks 77 = .ok (.sipush 10000, 3) := by decide +kernel
theorem dL_areBlocks_80 : decode cL_areBlocks 80 = .ok (.aload_n 2, 1) := by decide +kernel
theorem dL_areBlocks_81 : decode cL_areBlocks 81 = .ok (.iload 12, 2) := by decide +kernel
theorem dL_areBlocks_83 : decode cL_areBlocks 83 = .ok (.iaload, 1) := by decide +kernel
theorem dL_areBlocks_84 : decode cL_areBlocks 84 = .ok (.iadd, 1) := by decide +kernel
theorem dL_areBlocks_85 : decode cL_areBlocks 85 = .ok (.aload_n 3, 1) := by decide +kernel
theorem dL_areBlocks_86 : decode cL_areBlocks 86 = .ok (.iload 12, 2) := by decide +kernel
theorem dL_areBlocks_88 : decode cL_areBlocks 88 = .ok (.iaload, 1) := by decide +kernel
theorem dL_areBlocks_89 : decode cL_areBlocks 89 = .ok (.isub, 1) := by decide +kernel
theorem dL_areBlocks_90 : decode cL_areBlocks 90 = .ok (.if_icmp .ne 144, 3) := by decide +kernel
theorem dL_areBlocks_93 : decode cL_areBlocks 93 = .ok (.aload_n 0, 1) := by decide +kernel
theorem dL_areBlocks_94 : decode cL_areBlocks 94 = .ok (.iload 12, 2) := by decide +kernel
theorem dL_areBlocks_96 : decode cL_areBlocks 96 = .ok (.iconst 2, 1) := by decide +kernel
theorem dL_areBlocks_97 : decode cL_areBlocks 97 = .ok (.invokevirtual 46, 3) := by decide +kernel
theorem dL_areBlocks_100 : decode cL_areBlocks 100 = .ok (.aload_n 3, 1) := by decide +kernel
theorem dL_areBlocks_101 : decode cL_areBlocks 101 = .ok (.iload 12, 2) := by decide +kernel
theorem dL_areBlocks_103 : decode cL_areBlocks 103 = .ok (.iaload, 1) := by decide +kernel
theorem dL_areBlocks_104 : decode cL_areBlocks 104 = .ok (.if_icmp .ne 130, 3) := by decide +kernel
theorem dL_areBlocks_107 : decode cL_areBlocks 107 = .ok (.aload_n 0, 1) := by decide +kernel
theorem dL_areBlocks_108 : decode cL_areBlocks 108 = .ok (.iload 12, 2) := by decide +kernel
theorem dL_areBlocks_110 : decode cL_areBlocks 110 = .ok (.iconst 3, 1) := by decide +kernel
theorem dL_areBlocks_111 : decode cL_areBlocks 111 = .ok (.invokevirtual 46, 3) := by decide +kernel
theorem dL_areBlocks_114 : decode cL_areBlocks 114 = .ok (.aload 4, 2) := by decide +kernel
theorem dL_areBlocks_116 : decode cL_areBlocks 116 = .ok (.iload 12, 2) := by decide +kernel
theorem dL_areBlocks_118 : decode cL_areBlocks 118 = .ok (.iaload, 1) := by decide +kernel
theorem dL_areBlocks_119 : decode cL_areBlocks 119 = .ok (.if_icmp .ne 115, 3) := by decide +kernel
theorem dL_areBlocks_122 : decode cL_areBlocks 122 = .ok (.aload_n 0, 1) := by decide +kernel
theorem dL_areBlocks_123 : decode cL_areBlocks 123 = .ok (.iload 12, 2) := by decide +kernel
theorem dL_areBlocks_125 : decode cL_areBlocks 125 = .ok (.iconst 4, 1) := by decide +kernel
theorem dL_areBlocks_126 : decode cL_areBlocks 126 = .ok (.invokevirtual 46, 3) := by decide +kernel
theorem dL_areBlocks_129 : decode cL_areBlocks 129 = .ok (.aload_n 2, 1) := by decide +kernel
theorem dL_areBlocks_130 : decode cL_areBlocks 130 = .ok (.aload_n 3, 1) := by decide +kernel
theorem dL_areBlocks_131 : decode cL_areBlocks 131 = .ok (.iload 12, 2) := by decide +kernel
theorem dL_areBlocks_133 : decode cL_areBlocks 133 = .ok (.invokestatic 19, 3) := by decide +kernel
theorem dL_areBlocks_136 : decode cL_areBlocks 136 = .ok (.if_icmp .ne 98, 3) := by decide +kernel
theorem dL_areBlocks_139 : decode cL_areBlocks 139 = .ok (.aload_n 0, 1) := by decide +kernel
theorem dL_areBlocks_140 : decode cL_areBlocks 140 = .ok (.iload 12, 2) := by decide +kernel
theorem dL_areBlocks_142 : decode cL_areBlocks 142 = .ok (.iconst 5, 1) := by decide +kernel
theorem dL_areBlocks_143 : decode cL_areBlocks 143 = .ok (.invokevirtual 46, 3) := by decide +kernel
theorem dL_areBlocks_146 : decode cL_areBlocks 146 = .ok (.aload_n 1, 1) := by decide +kernel
theorem dL_areBlocks_147 : decode cL_areBlocks 147 = .ok (.aload_n 2, 1) := by decide +kernel
theorem dL_areBlocks_148 : decode cL_areBlocks 148 = .ok (.aload_n 3, 1) := by decide +kernel
theorem dL_areBlocks_149 : decode cL_areBlocks 149 = .ok (.iload 12, 2) := by decide +kernel
theorem dL_areBlocks_151 : decode cL_areBlocks 151 = .ok (.aload 4, 2) := by decide +kernel
theorem dL_areBlocks_153 : decode cL_areBlocks 153 = .ok (.iload 12, 2) := by decide +kernel
theorem dL_areBlocks_155 : decode cL_areBlocks 155 = .ok (.iaload, 1) := by decide +kernel
theorem dL_areBlocks_156 : decode cL_areBlocks 156 = .ok (.invokestatic 49, 3) := by decide +kernel
theorem dL_areBlocks_159 : decode cL_areBlocks 159 = .ok (.if_icmp .ne 75, 3) := by decide +kernel
theorem dL_areBlocks_162 : decode cL_areBlocks 162 = .ok (.aload_n 0, 1) := by decide +kernel
theorem dL_areBlocks_163 : decode cL_areBlocks 163 = .ok (.iload 12, 2) := by decide +kernel
theorem dL_areBlocks_165 : decode cL_areBlocks 165 = .ok (.bipush 6, 2) := by decide +kernel
theorem dL_areBlocks_167 : decode cL_areBlocks 167 = .ok (.invokevirtual 46, 3) := by decide +kernel
theorem dL_areBlocks_170 : decode cL_areBlocks 170 = .ok (.iload 13, 2) := by decide +kernel
theorem dL_areBlocks_172 : decode cL_areBlocks 172 = .ok (.iconst (-1), 1) := by decide +kernel
theorem dL_areBlocks_173 : decode cL_areBlocks 173 = .ok (.if_icmp .ne 7, 3) := by decide +kernel
theorem dL_areBlocks_176 : decode cL_areBlocks 176 = .ok (.iconst (-1), 1) := by decide +kernel
theorem dL_areBlocks_177 : decode cL_areBlocks 177 = .ok (.goto 8, 3) := by decide +kernel
theorem dL_areBlocks_180 : decode cL_areBlocks 180 = .ok (.iload 13, 2) := by decide +kernel
theorem dL_areBlocks_182 : decode cL_areBlocks 182 = .ok (.bipush 10, 2) := by decide +kernel
theorem dL_areBlocks_184 : decode cL_areBlocks 184 = .ok (.idiv, 1) := by decide +kernel
theorem dL_areBlocks_185 : decode cL_areBlocks 185 = .ok (.if_icmp .ne 49, 3) := by decide +kernel
theorem dL_areBlocks_188 : decode cL_areBlocks 188 = .ok (.aload_n 0, 1) := by decide +kernel
theorem dL_areBlocks_189 : decode cL_areBlocks 189 = .ok (.iload 12, 2) := by decide +kernel
theorem dL_areBlocks_191 : decode cL_areBlocks 191 = .ok (.bipush 7, 2) := by decide +kernel
theorem dL_areBlocks_193 : decode cL_areBlocks 193 = .ok (.invokevirtual 46, 3) := by decide +kernel
theorem dL_areBlocks_196 : decode cL_areBlocks 196 = .ok (.iload 13, 2) := by decide +kernel
theorem dL_areBlocks_198 : decode cL_areBlocks 198 = .ok (.iconst (-1), 1) := by decide +kernel
theorem dL_areBlocks_199 : decode cL_areBlocks 199 = .ok (.if_icmp .ne 7, 3) := by decide +kernel
theorem dL_areBlocks_202 : decode cL_areBlocks 202 = .ok (.iconst (-1), 1) := by decide +kernel
theorem dL_areBlocks_203 : decode cL_areBlocks 203 = .ok (.goto 8, 3) := by decide +kernel
theorem dL_areBlocks_206 : decode cL_areBlocks 206 = .ok (.iload 13, 2) := by decide +kernel
theorem dL_areBlocks_208 : decode cL_areBlocks 208 = .ok (.bipush 10, 2) := by decide +kernel
theorem dL_areBlocks_210 : decode cL_areBlocks 210 = .ok (.irem, 1) := by decide +kernel
theorem dL_areBlocks_211 : decode cL_areBlocks 211 = .ok (.if_icmp .ne 23, 3) := by decide +kernel
theorem dL_areBlocks_214 : decode cL_areBlocks 214 = .ok (.aload_n 0, 1) := by decide +kernel
theorem dL_areBlocks_215 : decode cL_areBlocks 215 = .ok (.iload 12, 2) := by decide +kernel
theorem dL_areBlocks_217 : decode cL_areBlocks 217 = .ok (.bipush 8, 2) := by decide +kernel
theorem dL_areBlocks_219 : decode cL_areBlocks 219 = .ok (.invokevirtual 46, 3) := by decide +kernel
theorem dL_areBlocks_222 : decode cL_areBlocks 222 = .ok (.aload 5, 2) := by decide +kernel
theorem dL_areBlocks_224 : decode cL_areBlocks 224 = .ok (.iload 12, 2) := by decide +kernel
theorem dL_areBlocks_226 : decode cL_areBlocks 226 = .ok (.iaload, 1) := by decide +kernel
theorem dL_areBlocks_227 : decode cL_areBlocks 227 = .ok (.if_icmp .ne 7, 3) := by decide +kernel
theorem dL_areBlocks_230 : decode cL_areBlocks 230 = .ok (.iconst 1, 1) := by decide +kernel
theorem dL_areBlocks_231 : decode cL_areBlocks 231 = .ok (.goto 4, 3) := by decide +kernel
theorem dL_areBlocks_234 : decode cL_areBlocks 234 = .ok (.iconst 0, 1) := by decide +kernel
theorem dL_areBlocks_235 : decode cL_areBlocks 235 = .ok (.istore 11, 2) := by decide +kernel
theorem dL_areBlocks_237 : decode cL_areBlocks 237 = .ok (.iconst 0, 1) := by decide +kernel
theorem dL_areBlocks_238 : decode cL_areBlocks 238 = .ok (.istore 14, 2) := by decide +kernel
theorem dL_areBlocks_240 : decode cL_areBlocks 240 = .ok (.aload 4, 2) := by decide +kernel
theorem dL_areBlocks_242 : decode cL_areBlocks 242 = .ok (.iload 12, 2) := by decide +kernel
theorem dL_areBlocks_244 : decode cL_areBlocks 244 = .ok (.iaload, 1) := by decide +kernel
theorem dL_areBlocks_245 : decode cL_areBlocks 245 = .ok (.iload 14, 2) := by decide +kernel
theorem dL_areBlocks_247 : decode cL_areBlocks 247 = .ok (.invokestatic 53, 3) := by decide +kernel
theorem dL_areBlocks_250 : decode cL_areBlocks 250 = .ok (.aload 6, 2) := by decide +kernel
theorem dL_areBlocks_252 : decode cL_areBlocks 252 = .ok (.iconst 1, 1) := by decide +kernel
theorem dL_areBlocks_253 : decode cL_areBlocks 253 = .ok (.iaload, 1) := by decide +kernel
theorem dL_areBlocks_254 : decode cL_areBlocks 254 = .ok (.if_icmp .le 9, 3) := by decide +kernel
theorem dL_areBlocks_257 : decode cL_areBlocks 257 = .ok (.iinc 14 1, 3) := by decide +kernel
theorem dL_areBlocks_260 : decode cL_areBlocks 260 = .ok (.goto (-20), 3) := by decide +kernel
theorem dL_areBlocks_263 : decode cL_areBlocks 263 = .ok (.iload 11, 2) := by decide +kernel
theorem dL_areBlocks_265 : decode cL_areBlocks 265 = .ok (.ifCond .eq 18, 3) := by decide +kernel
theorem dL_areBlocks_268 : decode cL_areBlocks 268 = .ok (.aload_n 0, 1) := by decide +kernel
theorem dL_areBlocks_269 : decode cL_areBlocks 269 = .ok (.iload 12, 2) := by decide +kernel
theorem dL_areBlocks_271 : decode cL_areBlocks 271 = .ok (.invokevirtual 56, 3) := by decide +kernel
theorem dL_areBlocks_274 : decode cL_areBlocks 274 = .ok (.iload 14, 2) := by decide +kernel
theorem dL_areBlocks_276 : decode cL_areBlocks 276 = .ok (.if_icmp .ne 7, 3) := by decide +kernel
theorem dL_areBlocks_279 : decode cL_areBlocks 279 = .ok (.iconst 1, 1) := by decide +kernel
theorem dL_areBlocks_280 : decode cL_areBlocks 280 = .ok (.goto 4, 3) := by decide +kernel
theorem dL_areBlocks_283 : decode cL_areBlocks 283 = .ok (.iconst 0, 1) := by decide +kernel
theorem dL_areBlocks_284 : decode cL_areBlocks 284 = .ok (.istore 11, 2) := by decide +kernel
theorem dL_areBlocks_286 : decode cL_areBlocks 286 = .ok (.iload 8, 2) := by decide +kernel
theorem dL_areBlocks_288 : decode cL_areBlocks 288 = .ok (.aload_n 2, 1) := by decide +kernel
theorem dL_areBlocks_289 : decode cL_areBlocks 289 = .ok (.iload 12, 2) := by decide +kernel
theorem dL_areBlocks_291 : decode cL_areBlocks 291 = .ok (.iaload, 1) := by decide +kernel
theorem dL_areBlocks_292 : decode cL_areBlocks 292 = .ok (.aload_n 3, 1) := by decide +kernel
theorem dL_areBlocks_293 : decode cL_areBlocks 293 = .ok (.iload 12, 2) := by decide +kernel
theorem dL_areBlocks_295 : decode cL_areBlocks 295 = .ok (.iaload, 1) := by decide +kernel
theorem dL_areBlocks_296 : decode cL_areBlocks 296 = .ok (.isub, 1) := by decide +kernel
theorem dL_areBlocks_297 : decode cL_areBlocks 297 = .ok (.invokestatic 9, 3) := by decide +kernel
theorem dL_areBlocks_300 : decode cL_areBlocks 300 = .ok (.iadd, 1) := by decide +kernel
theorem dL_areBlocks_301 : decode cL_areBlocks 301 = .ok (.istore 8, 2) := by decide +kernel
theorem dL_areBlocks_303 : decode cL_areBlocks 303 = .ok (.iload 9, 2) := by decide +kernel
theorem dL_areBlocks_305 : decode cL_areBlocks 305 = .ok (.aload_n 2, 1) := by decide +kernel
theorem dL_areBlocks_306 : decode cL_areBlocks 306 = .ok (.aload_n 3, 1) := by decide +kernel
theorem dL_areBlocks_307 : decode cL_areBlocks 307 = .ok (.iload 12, 2) := by decide +kernel
theorem dL_areBlocks_309 : decode cL_areBlocks 309 = .ok (.invokestatic 19, 3) := by decide +kernel
theorem dL_areBlocks_312 : decode cL_areBlocks 312 = .ok (.iconst 3, 1) := by decide +kernel
theorem dL_areBlocks_313 : decode cL_areBlocks 313 = .ok (.if_icmp .ne 10, 3) := by decide +kernel
theorem dL_areBlocks_316 : decode cL_areBlocks 316 = .ok (.iconst 1, 1) := by decide +kernel
theorem dL_areBlocks_317 : decode cL_areBlocks 317 = .ok (.iload 12, 2) := by decide +kernel
theorem dL_areBlocks_319 : decode cL_areBlocks 319 = .ok (.ishl, 1) := by decide +kernel
theorem dL_areBlocks_320 : decode cL_areBlocks 320 = .ok (.goto 4, 3) := by decide +kernel
theorem dL_areBlocks_323 : decode cL_areBlocks 323 = .ok (.iconst 0, 1) := by decide +kernel
theorem dL_areBlocks_324 : decode cL_areBlocks 324 = .ok (.ior, 1) := by decide +kernel
theorem dL_areBlocks_325 : decode cL_areBlocks 325 = .ok (.istore 9, 2) := by decide +kernel
theorem dL_areBlocks_327 : decode cL_areBlocks 327 = .ok (.iload 10, 2) := by decide +kernel
theorem dL_areBlocks_329 : decode cL_areBlocks 329 = .ok (.aload_n 3, 1) := by decide +kernel
theorem dL_areBlocks_330 : decode cL_areBlocks 330 = .ok (.iload 12, 2) := by decide +kernel
theorem dL_areBlocks_332 : decode cL_areBlocks 332 = .ok (.iaload, 1) := by decide +kernel
theorem dL_areBlocks_333 : decode cL_areBlocks 333 = .ok (.iadd, 1) := by decide +kernel
theorem dL_areBlocks_334 : decode cL_areBlocks 334 = .ok (.istore 10, 2) := by decide +kernel
theorem dL_areBlocks_336 : decode cL_areBlocks 336 = .ok (.iinc 12 1, 3) := by decide +kernel
theorem dL_areBlocks_339 : decode cL_areBlocks 339 = .ok (.goto (-307), 3) := by decide +kernel
theorem dL_areBlocks_342 : decode cL_areBlocks 342 = .ok (.iload 11, 2) := by decide +kernel
theorem dL_areBlocks_344 : decode cL_areBlocks 344 = .ok (.ifCond .eq 142, 3) := by decide +kernel
theorem dL_areBlocks_347 : decode cL_areBlocks 347 = .ok (.aload_n 0, 1) := by decide +kernel
theorem dL_areBlocks_348 : decode cL_areBlocks 348 = .ok (.iconst 1, 1) := by decide +kernel
theorem dL_areBlocks_349 : decode cL_areBlocks 349 = .ok (.invokevirtual 43, 3) := by decide +kernel
theorem dL_areBlocks_352 : decode cL_areBlocks 352 = .ok (.aload 6, 2) := by decide +kernel
theorem dL_areBlocks_354 : decode cL_areBlocks 354 = .ok (.aload 7, 2) := by decide +kernel
theorem dL_areBlocks_356 : decode cL_areBlocks 356 = .ok (.invokestatic 59, 3) := by decide +kernel
theorem dL_areBlocks_359 : decode cL_areBlocks 359 = .ok (.if_icmp .ne 127, 3) := by decide +kernel
theorem dL_areBlocks_362 : decode cL_areBlocks 362 = .ok (.aload_n 0, 1) := by decide +kernel
theorem dL_areBlocks_363 : decode cL_areBlocks 363 = .ok (.iconst 2, 1) := by decide +kernel
theorem dL_areBlocks_364 : decode cL_areBlocks 364 = .ok (.invokevirtual 43, 3) := by decide +kernel
theorem dL_areBlocks_367 : decode cL_areBlocks 367 = .ok (.aload 6, 2) := by decide +kernel
theorem dL_areBlocks_369 : decode cL_areBlocks 369 = .ok (.iconst 4, 1) := by decide +kernel
theorem dL_areBlocks_370 : decode cL_areBlocks 370 = .ok (.iaload, 1) := by decide +kernel
theorem dL_areBlocks_371 : decode cL_areBlocks 371 = .ok (.if_icmp .ne 115, 3) := by decide +kernel
theorem dL_areBlocks_374 : decode cL_areBlocks 374 = .ok (.aload_n 0, 1) := by decide +kernel
theorem dL_areBlocks_375 : decode cL_areBlocks 375 = .ok (.iconst 3, 1) := by decide +kernel
theorem dL_areBlocks_376 : decode cL_areBlocks 376 = .ok (.invokevirtual 43, 3) := by decide +kernel
theorem dL_areBlocks_379 : decode cL_areBlocks 379 = .ok (.aload 6, 2) := by decide +kernel
theorem dL_areBlocks_381 : decode cL_areBlocks 381 = .ok (.iconst 5, 1) := by decide +kernel
theorem dL_areBlocks_382 : decode cL_areBlocks 382 = .ok (.iaload, 1) := by decide +kernel
theorem dL_areBlocks_383 : decode cL_areBlocks 383 = .ok (.if_icmp .ne 103, 3) := by decide +kernel
theorem dL_areBlocks_386 : decode cL_areBlocks 386 = .ok (.aload_n 0, 1) := by decide +kernel
theorem dL_areBlocks_387 : decode cL_areBlocks 387 = .ok (.iconst 4, 1) := by decide +kernel
theorem dL_areBlocks_388 : decode cL_areBlocks 388 = .ok (.invokevirtual 43, 3) := by decide +kernel
theorem dL_areBlocks_391 : decode cL_areBlocks 391 = .ok (.aload 6, 2) := by decide +kernel
theorem dL_areBlocks_393 : decode cL_areBlocks 393 = .ok (.bipush 6, 2) := by decide +kernel
theorem dL_areBlocks_395 : decode cL_areBlocks 395 = .ok (.iaload, 1) := by decide +kernel
theorem dL_areBlocks_396 : decode cL_areBlocks 396 = .ok (.if_icmp .ne 90, 3) := by decide +kernel
theorem dL_areBlocks_399 : decode cL_areBlocks 399 = .ok (.aload_n 0, 1) := by decide +kernel
theorem dL_areBlocks_400 : decode cL_areBlocks 400 = .ok (.iconst 5, 1) := by decide +kernel
theorem dL_areBlocks_401 : decode cL_areBlocks 401 = .ok (.invokevirtual 43, 3) := by decide +kernel
theorem dL_areBlocks_404 : decode cL_areBlocks 404 = .ok (.iload 10, 2) := by decide +kernel
theorem dL_areBlocks_406 : decode cL_areBlocks 406 = .ok (.if_icmp .ne 80, 3) := by decide +kernel
theorem dL_areBlocks_409 : decode cL_areBlocks 409 = .ok (.aload_n 0, 1) := by decide +kernel
theorem dL_areBlocks_410 : decode cL_areBlocks 410 = .ok (.bipush 6, 2) := by decide +kernel
theorem dL_areBlocks_412 : decode cL_areBlocks 412 = .ok (.invokevirtual 43, 3) := by decide +kernel
theorem dL_areBlocks_415 : decode cL_areBlocks 415 = .ok (.aload 6, 2) := by decide +kernel
theorem dL_areBlocks_417 : decode cL_areBlocks 417 = .ok (.bipush 7, 2) := by decide +kernel
theorem dL_areBlocks_419 : decode cL_areBlocks 419 = .ok (.iaload, 1) := by decide +kernel
theorem dL_areBlocks_420 : decode cL_areBlocks 420 = .ok (.if_icmp .ne 66, 3) := by decide +kernel
theorem dL_areBlocks_423 : decode cL_areBlocks 423 = .ok (.aload_n 0, 1) := by decide +kernel
theorem dL_areBlocks_424 : decode cL_areBlocks 424 = .ok (.bipush 7, 2) := by decide +kernel
theorem dL_areBlocks_426 : decode cL_areBlocks 426 = .ok (.invokevirtual 43, 3) := by decide +kernel
theorem dL_areBlocks_429 : decode cL_areBlocks 429 = .ok (.iload 9, 2) := by decide +kernel
theorem dL_areBlocks_431 : decode cL_areBlocks 431 = .ok (.if_icmp .ne 55, 3) := by decide +kernel
theorem dL_areBlocks_434 : decode cL_areBlocks 434 = .ok (.aload_n 0, 1) := by decide +kernel
theorem dL_areBlocks_435 : decode cL_areBlocks 435 = .ok (.iconst 0, 1) := by decide +kernel
theorem dL_areBlocks_436 : decode cL_areBlocks 436 = .ok (.invokevirtual 63, 3) := by decide +kernel
theorem dL_areBlocks_439 : decode cL_areBlocks 439 = .ok (.aload 6, 2) := by decide +kernel
theorem dL_areBlocks_441 : decode cL_areBlocks 441 = .ok (.iconst 0, 1) := by decide +kernel
theorem dL_areBlocks_442 : decode cL_areBlocks 442 = .ok (.iaload, 1) := by decide +kernel
theorem dL_areBlocks_443 : decode cL_areBlocks 443 = .ok (.if_icmp .ne 43, 3) := by decide +kernel
theorem dL_areBlocks_446 : decode cL_areBlocks 446 = .ok (.aload_n 0, 1) := by decide +kernel
theorem dL_areBlocks_447 : decode cL_areBlocks 447 = .ok (.iconst 1, 1) := by decide +kernel
theorem dL_areBlocks_448 : decode cL_areBlocks 448 = .ok (.invokevirtual 63, 3) := by decide +kernel
theorem dL_areBlocks_451 : decode cL_areBlocks 451 = .ok (.aload 6, 2) := by decide +kernel
theorem dL_areBlocks_453 : decode cL_areBlocks 453 = .ok (.iconst 1, 1) := by decide +kernel
theorem dL_areBlocks_454 : decode cL_areBlocks 454 = .ok (.iaload, 1) := by decide +kernel
theorem dL_areBlocks_455 : decode cL_areBlocks 455 = .ok (.if_icmp .ne 31, 3) := by decide +kernel
theorem dL_areBlocks_458 : decode cL_areBlocks 458 = .ok (.aload_n 0, 1) := by decide +kernel
theorem dL_areBlocks_459 : decode cL_areBlocks 459 = .ok (.iconst 2, 1) := by decide +kernel
theorem dL_areBlocks_460 : decode cL_areBlocks 460 = .ok (.invokevirtual 63, 3) := by decide +kernel
theorem dL_areBlocks_463 : decode cL_areBlocks 463 = .ok (.aload 6, 2) := by decide +kernel
theorem dL_areBlocks_465 : decode cL_areBlocks 465 = .ok (.iconst 2, 1) := by decide +kernel
theorem dL_areBlocks_466 : decode cL_areBlocks 466 = .ok (.iaload, 1) := by decide +kernel
theorem dL_areBlocks_467 : decode cL_areBlocks 467 = .ok (.if_icmp .ne 19, 3) := by decide +kernel
theorem dL_areBlocks_470 : decode cL_areBlocks 470 = .ok (.aload_n 0, 1) := by decide +kernel
theorem dL_areBlocks_471 : decode cL_areBlocks 471 = .ok (.iconst 3, 1) := by decide +kernel
theorem dL_areBlocks_472 : decode cL_areBlocks 472 = .ok (.invokevirtual 63, 3) := by decide +kernel
theorem dL_areBlocks_475 : decode cL_areBlocks 475 = .ok (.aload 6, 2) := by decide +kernel
theorem dL_areBlocks_477 : decode cL_areBlocks 477 = .ok (.iconst 3, 1) := by decide +kernel
theorem dL_areBlocks_478 : decode cL_areBlocks 478 = .ok (.iaload, 1) := by decide +kernel
theorem dL_areBlocks_479 : decode cL_areBlocks 479 = .ok (.if_icmp .ne 7, 3) := by decide +kernel
theorem dL_areBlocks_482 : decode cL_areBlocks 482 = .ok (.iconst 1, 1) := by decide +kernel
theorem dL_areBlocks_483 : decode cL_areBlocks 483 = .ok (.goto 4, 3) := by decide +kernel
theorem dL_areBlocks_486 : decode cL_areBlocks 486 = .ok (.iconst 0, 1) := by decide +kernel
theorem dL_areBlocks_487 : decode cL_areBlocks 487 = .ok (.istore 11, 2) := by decide +kernel
theorem dL_areBlocks_489 : decode cL_areBlocks 489 = .ok (.iload 11, 2) := by decide +kernel
theorem dL_areBlocks_491 : decode cL_areBlocks 491 = .ok (.ifCond .eq 37, 3) := by decide +kernel
theorem dL_areBlocks_494 : decode cL_areBlocks 494 = .ok (.aload_n 0, 1) := by decide +kernel
theorem dL_areBlocks_495 : decode cL_areBlocks 495 = .ok (.invokevirtual 66, 3) := by decide +kernel
theorem dL_areBlocks_498 : decode cL_areBlocks 498 = .ok (.aload 6, 2) := by decide +kernel
theorem dL_areBlocks_500 : decode cL_areBlocks 500 = .ok (.bipush 8, 2) := by decide +kernel
theorem dL_areBlocks_502 : decode cL_areBlocks 502 = .ok (.iaload, 1) := by decide +kernel
theorem dL_areBlocks_503 : decode cL_areBlocks 503 = .ok (.ifCond .ne 7, 3) := by decide +kernel
theorem dL_areBlocks_506 : decode cL_areBlocks 506 = .ok (.dconst 0, 1) := by decide +kernel
theorem dL_areBlocks_507 : decode cL_areBlocks 507 = .ok (.goto 13, 3) := by decide +kernel
theorem dL_areBlocks_510 : decode cL_areBlocks 510 = .ok (.iload 8, 2) := by decide +kernel
theorem dL_areBlocks_512 : decode cL_areBlocks 512 = .ok (.i2d, 1) := by decide +kernel
theorem dL_areBlocks_513 : decode cL_areBlocks 513 = .ok (.aload 6, 2) := by decide +kernel
theorem dL_areBlocks_515 : decode cL_areBlocks 515 = .ok (.bipush 8, 2) := by decide +kernel
theorem dL_areBlocks_517 : decode cL_areBlocks 517 = .ok (.iaload, 1) := by decide +kernel
theorem dL_areBlocks_518 : decode cL_areBlocks 518 = .ok (.i2d, 1) := by decide +kernel
theorem dL_areBlocks_519 : decode cL_areBlocks 519 = .ok (.ddiv, 1) := by decide +kernel
theorem dL_areBlocks_520 : decode cL_areBlocks 520 = .ok (.dcmp .l, 1) := by decide +kernel
theorem dL_areBlocks_521 : decode cL_areBlocks 521 = .ok (.ifCond .ne 7, 3) := by decide +kernel
theorem dL_areBlocks_524 : decode cL_areBlocks 524 = .ok (.iconst 1, 1) := by decide +kernel
theorem dL_areBlocks_525 : decode cL_areBlocks 525 = .ok (.goto 4, 3) := by decide +kernel
theorem dL_areBlocks_528 : decode cL_areBlocks 528 = .ok (.iconst 0, 1) := by decide +kernel
theorem dL_areBlocks_529 : decode cL_areBlocks 529 = .ok (.ireturn, 1) := by decide +kernel
set_option maxRecDepth 20000 in
theorem ggL_areStacks_L_length : GoodIn wsL_areStacks wsL_length := goodIn_r _ [4] (by decide +kernel) (by decide +kernel)
set_option maxRecDepth 20000 in
theorem gL_areStacks_L_length : GoodIn wsL_areStacks (va_wsS RL 49 yL_length wsL_length) := goodIn_app (goodIn_of _ (by decide +kernel)) ggL_areStacks_L_length
set_option maxRecDepth 20000 in
theorem ggL_areStacks_L_cool : GoodIn wsL_areStacks wsL_cool := goodIn_r _ [7] (by decide +kernel) (by decide +kernel)
set_option maxRecDepth 20000 in
theorem gL_areStacks_L_cool : GoodIn wsL_areStacks (va_wsS RL 53 yL_cool wsL_cool) := goodIn_app (goodIn_of _ (by decide +kernel)) ggL_areStacks_L_cool
set_option maxRecDepth 20000 in
theorem ggL_areStacks_L_grade : GoodIn wsL_areStacks wsL_grade := goodIn_r _ [10, 11, 12, 3, 13] (by decide +kernel) (by decide +kernel)
set_option maxRecDepth 20000 in
theorem gL_areStacks_L_grade : GoodIn wsL_areStacks (va_wsS RL 19 yL_grade wsL_grade) := goodIn_app (goodIn_of _ (by decide +kernel)) ggL_areStacks_L_grade
set_option maxRecDepth 20000 in
theorem ggL_areStacks_X4_stackOf : GoodIn wsL_areStacks wsX4_stackOf := goodIn_ca (goodIn_ca (goodIn_r _ [18, 19, 20, 21, 22, 23, 17, 24, 25, 26, 27, 28, 29, 30, 31, 32, 33, 34, 35, 36, 37, 38, 39, 40, 41, 42, 43, 44, 45, 46, 47, 48, 49, 50, 51, 52, 53, 54, 55, 56, 57, 58, 59, 60, 61, 62, 63, 64, 65, 66, 67, 68, 69, 70, 71, 72, 73, 74, 75, 76, 77, 78, 79, 80, 81, 82, 83, 84, 85, 86, 87, 88, 89, 90, 91, 92, 93, 94, 95, 96, 97, 98, 99, 107, 108, 109, 110, 111, 112, 113, 114, 115, 116, 117, 118, 119, 120, 121, 122, 123] (by decide +kernel) (by decide +kernel)) (goodIn_sub (fun _ h => List.mem_cons_of_mem _ (List.mem_append_left _ (List.mem_append_right _ h))) (by decide +kernel))) (goodIn_sub (fun _ h => List.mem_cons_of_mem _ (List.mem_append_right _ h)) (by decide +kernel))
set_option maxRecDepth 20000 in
theorem gL_areStacks_X4_stackOf : GoodIn wsL_areStacks (wsV RL 70 RX4 yX4_stackOf wsX4_stackOf) := goodIn_app (goodIn_of _ (by decide +kernel)) ggL_areStacks_X4_stackOf
set_option maxRecDepth 20000 in
theorem ggL_areStacks_L_size : GoodIn wsL_areStacks wsL_size := goodIn_r _ [13] (by decide +kernel) (by decide +kernel)
set_option maxRecDepth 20000 in
theorem gL_areStacks_L_size : GoodIn wsL_areStacks (va_wsS RL 9 yL_size wsL_size) := goodIn_app (goodIn_of _ (by decide +kernel)) ggL_areStacks_L_size
set_option maxRecDepth 20000 in
theorem ggL_areStacks_X4_lengthIn : GoodIn wsL_areStacks wsX4_lengthIn := goodIn_ca (goodIn_ca (goodIn_r _ [103, 21, 22, 23, 17, 24, 25, 26, 104, 105, 106, 19, 20, 51, 52, 53, 30, 54, 36, 37, 55, 56, 57, 58, 59, 60, 50, 61, 62, 63, 64, 65, 107, 108, 109, 110, 111, 112, 113, 114, 115, 116, 117, 118, 119, 120, 121, 122, 123] (by decide +kernel) (by decide +kernel)) (goodIn_sub (fun _ h => List.mem_cons_of_mem _ (List.mem_append_right _ h)) (by decide +kernel))) (goodIn_sub (fun _ h => List.mem_cons_of_mem _ (List.mem_append_left _ (List.mem_append_right _ h))) (by decide +kernel))
set_option maxRecDepth 20000 in
theorem gL_areStacks_X4_lengthIn : GoodIn wsL_areStacks (wsV RL 73 RX4 yX4_lengthIn wsX4_lengthIn) := goodIn_app (goodIn_of _ (by decide +kernel)) ggL_areStacks_X4_lengthIn
theorem dL_areStacks_0 : decode cL_areStacks 0 = .ok (.iconst 1, 1) := by decide +kernel
theorem dL_areStacks_1 : decode cL_areStacks 1 = .ok (.istore 8, 2) := by decide +kernel
theorem dL_areStacks_3 : decode cL_areStacks 3 = .ok (.iconst 0, 1) := by decide +kernel
theorem dL_areStacks_4 : decode cL_areStacks 4 = .ok (.istore 9, 2) := by decide +kernel
theorem dL_areStacks_6 : decode cL_areStacks 6 = .ok (.iload 9, 2) := by decide +kernel
theorem dL_areStacks_8 : decode cL_areStacks 8 = .ok (.iconst 3, 1) := by decide +kernel
theorem dL_areStacks_9 : decode cL_areStacks 9 = .ok (.if_icmp .ge 317, 3) := by decide +kernel
theorem dL_areStacks_12 : decode cL_areStacks 12 = .ok (.iload 8, 2) := by decide +kernel
theorem dL_areStacks_14 : decode cL_areStacks 14 = .ok (.ifCond .eq 312, 3) := by decide +kernel
theorem dL_areStacks_17 : decode cL_areStacks 17 = .ok (.aload 6, 2) := by decide +kernel
theorem dL_areStacks_19 : decode cL_areStacks 19 = .ok (.bipush 7, 2) := by decide +kernel
theorem dL_areStacks_21 : decode cL_areStacks 21 = .ok (.iload 9, 2) := by decide +kernel
theorem dL_areStacks_23 : decode cL_areStacks 23 = .ok (.imul, 1) := by decide +kernel
theorem dL_areStacks_24 : decode cL_areStacks 24 = .ok (.iaload, 1) := by decide +kernel
theorem dL_areStacks_25 : decode cL_areStacks 25 = .ok (.istore 10, 2) := by decide +kernel
theorem dL_areStacks_27 : decode cL_areStacks 27 = .ok (.iconst 0, 1) := by decide +kernel
theorem dL_areStacks_28 : decode cL_areStacks 28 = .ok (.istore 11, 2) := by decide +kernel
theorem dL_areStacks_30 : decode cL_areStacks 30 = .ok (.iload 10, 2) := by decide +kernel
theorem dL_areStacks_32 : decode cL_areStacks 32 = .ok (.iconst 1, 1) := by decide +kernel
theorem dL_areStacks_33 : decode cL_areStacks 33 = .ok (.if_icmp .le 15, 3) := by decide +kernel
theorem dL_areStacks_36 : decode cL_areStacks 36 = .ok (.iload 10, 2) := by decide +kernel
theorem dL_areStacks_38 : decode cL_areStacks 38 = .ok (.iconst 1, 1) := by decide +kernel
theorem dL_areStacks_39 : decode cL_areStacks 39 = .ok (.isub, 1) := by decide +kernel
theorem dL_areStacks_40 : decode cL_areStacks 40 = .ok (.aload 5, 2) := by decide +kernel
theorem dL_areStacks_42 : decode cL_areStacks 42 = .ok (.iconst 0, 1) := by decide +kernel
theorem dL_areStacks_43 : decode cL_areStacks 43 = .ok (.iaload, 1) := by decide +kernel
theorem dL_areStacks_44 : decode cL_areStacks 44 = .ok (.imul, 1) := by decide +kernel
theorem dL_areStacks_45 : decode cL_areStacks 45 = .ok (.goto 4, 3) := by decide +kernel
theorem dL_areStacks_48 : decode cL_areStacks 48 = .ok (.iconst 0, 1) := by decide +kernel
theorem dL_areStacks_49 : decode cL_areStacks 49 = .ok (.istore 12, 2) := by decide +kernel
theorem dL_areStacks_51 : decode cL_areStacks 51 = .ok (.iload 12, 2) := by decide +kernel
theorem dL_areStacks_53 : decode cL_areStacks 53 = .ok (.istore 13, 2) := by decide +kernel
theorem dL_areStacks_55 : decode cL_areStacks 55 = .ok (.iconst 0, 1) := by decide +kernel
theorem dL_areStacks_56 : decode cL_areStacks 56 = .ok (.istore 14, 2) := by decide +kernel
theorem dL_areStacks_58 : decode cL_areStacks 58 = .ok (.iconst (-1), 1) := by decide +kernel
theorem dL_areStacks_59 : decode cL_areStacks 59 = .ok (.istore 15, 2) := by decide +kernel
theorem dL_areStacks_61 : decode cL_areStacks 61 = .ok (.iconst 1, 1) := by decide +kernel
theorem dL_areStacks_62 : decode cL_areStacks 62 = .ok (.istore 16, 2) := by decide +kernel
theorem dL_areStacks_64 : decode cL_areStacks 64 = .ok (.iload 16, 2) := by decide +kernel
theorem dL_areStacks_66 : decode cL_areStacks 66 = .ok (.iload 10, 2) := by decide +kernel
theorem dL_areStacks_68 : decode cL_areStacks 68 = .ok (.if_icmp .gt 107, 3) := by decide +kernel
theorem dL_areStacks_71 : decode cL_areStacks 71 = .ok (.aload 6, 2) := by decide +kernel
theorem dL_areStacks_73 : decode cL_areStacks 73 = .ok (.bipush 7, 2) := by decide +kernel
theorem dL_areStacks_75 : decode cL_areStacks 75 = .ok (.iload 9, 2) := by decide +kernel
theorem dL_areStacks_77 : decode cL_areStacks 77 = .ok (.imul, 1) := by decide +kernel
theorem dL_areStacks_78 : decode cL_areStacks 78 = .ok (.iload 16, 2) := by decide +kernel
theorem dL_areStacks_80 : decode cL_areStacks 80 = .ok (.iadd, 1) := by decide +kernel
theorem dL_areStacks_81 : decode cL_areStacks 81 = .ok (.iaload, 1) := by decide +kernel
theorem dL_areStacks_82 : decode cL_areStacks 82 = .ok (.istore 17, 2) := by decide +kernel
theorem dL_areStacks_84 : decode cL_areStacks 84 = .ok (.iload 11, 2) := by decide +kernel
theorem dL_areStacks_86 : decode cL_areStacks 86 = .ok (.aload_n 1, 1) := by decide +kernel
theorem dL_areStacks_87 : decode cL_areStacks 87 = .ok (.iload 17, 2) := by decide +kernel
theorem dL_areStacks_89 : decode cL_areStacks 89 = .ok (.iaload, 1) := by decide +kernel
theorem dL_areStacks_90 : decode cL_areStacks 90 = .ok (.iadd, 1) := by decide +kernel
theorem dL_areStacks_91 : decode cL_areStacks 91 = .ok (.istore 11, 2) := by decide +kernel
theorem dL_areStacks_93 : decode cL_areStacks 93 = .ok (.iload 12, 2) := by decide +kernel
theorem dL_areStacks_95 : decode cL_areStacks 95 = .ok (.aload_n 1, 1) := by decide +kernel
theorem dL_areStacks_96 : decode cL_areStacks 96 = .ok (.aload_n 2, 1) := by decide +kernel
theorem dL_areStacks_97 : decode cL_areStacks 97 = .ok (.aload_n 3, 1) := by decide +kernel
theorem dL_areStacks_98 : decode cL_areStacks 98 = .ok (.iload 17, 2) := by decide +kernel
theorem dL_areStacks_100 : decode cL_areStacks 100 = .ok (.aload 4, 2) := by decide +kernel
theorem dL_areStacks_102 : decode cL_areStacks 102 = .ok (.iload 17, 2) := by decide +kernel
theorem dL_areStacks_104 : decode cL_areStacks 104 = .ok (.iaload, 1) := by decide +kernel
theorem dL_areStacks_105 : decode cL_areStacks 105 = .ok (.invokestatic 49, 3) := by decide +kernel
theorem dL_areStacks_108 : decode cL_areStacks 108 = .ok (.iadd, 1) := by decide +kernel
theorem dL_areStacks_109 : decode cL_areStacks 109 = .ok (.istore 12, 2) := by decide +kernel
theorem dL_areStacks_111 : decode cL_areStacks 111 = .ok (.iload 13, 2) := by decide +kernel
theorem dL_areStacks_113 : decode cL_areStacks 113 = .ok (.aload_n 1, 1) := by decide +kernel
theorem dL_areStacks_114 : decode cL_areStacks 114 = .ok (.aload_n 2, 1) := by decide +kernel
theorem dL_areStacks_115 : decode cL_areStacks 115 = .ok (.aload_n 3, 1) := by decide +kernel
theorem dL_areStacks_116 : decode cL_areStacks 116 = .ok (.iload 17, 2) := by decide +kernel
theorem dL_areStacks_118 : decode cL_areStacks 118 = .ok (.aload 4, 2) := by decide +kernel
theorem dL_areStacks_120 : decode cL_areStacks 120 = .ok (.iload 17, 2) := by decide +kernel
theorem dL_areStacks_122 : decode cL_areStacks 122 = .ok (.iaload, 1) := by decide +kernel
theorem dL_areStacks_123 : decode cL_areStacks 123 = .ok (.iload 7, 2) := by decide +kernel
theorem dL_areStacks_125 : decode cL_areStacks 125 = .ok (.invokestatic 53, 3) := by decide +kernel
theorem dL_areStacks_128 : decode cL_areStacks 128 = .ok (.invokestatic 49, 3) := by decide +kernel
theorem dL_areStacks_131 : decode cL_areStacks 131 = .ok (.iadd, 1) := by decide +kernel
theorem dL_areStacks_132 : decode cL_areStacks 132 = .ok (.istore 13, 2) := by decide +kernel
theorem dL_areStacks_134 : decode cL_areStacks 134 = .ok (.iload 14, 2) := by decide +kernel
theorem dL_areStacks_136 : decode cL_areStacks 136 = .ok (.iconst 1, 1) := by decide +kernel
theorem dL_areStacks_137 : decode cL_areStacks 137 = .ok (.iload 17, 2) := by decide +kernel
theorem dL_areStacks_139 : decode cL_areStacks 139 = .ok (.ishl, 1) := by decide +kernel
theorem dL_areStacks_140 : decode cL_areStacks 140 = .ok (.ior, 1) := by decide +kernel
theorem dL_areStacks_141 : decode cL_areStacks 141 = .ok (.istore 14, 2) := by decide +kernel
theorem dL_areStacks_143 : decode cL_areStacks 143 = .ok (.aload_n 2, 1) := by decide +kernel
theorem dL_areStacks_144 : decode cL_areStacks 144 = .ok (.aload_n 3, 1) := by decide +kernel
theorem dL_areStacks_145 : decode cL_areStacks 145 = .ok (.iload 17, 2) := by decide +kernel
theorem dL_areStacks_147 : decode cL_areStacks 147 = .ok (.invokestatic 19, 3) := by decide +kernel
theorem dL_areStacks_150 : decode cL_areStacks 150 = .ok (.iload 15, 2) := by decide +kernel
theorem dL_areStacks_152 : decode cL_areStacks 152 = .ok (.if_icmp .le 13, 3) := by decide +kernel
theorem dL_areStacks_155 : decode cL_areStacks 155 = .ok (.aload_n 2, 1) := by decide +kernel
theorem dL_areStacks_156 : decode cL_areStacks 156 = .ok (.aload_n 3, 1) := by decide +kernel
theorem dL_areStacks_157 : decode cL_areStacks 157 = .ok (.iload 17, 2) := by decide +kernel
theorem dL_areStacks_159 : decode cL_areStacks 159 = .ok (.invokestatic 19, 3) := by decide +kernel
theorem dL_areStacks_162 : decode cL_areStacks 162 = .ok (.goto 5, 3) := by decide +kernel
theorem dL_areStacks_165 : decode cL_areStacks 165 = .ok (.iload 15, 2) := by decide +kernel
theorem dL_areStacks_167 : decode cL_areStacks 167 = .ok (.istore 15, 2) := by decide +kernel
theorem dL_areStacks_169 : decode cL_areStacks 169 = .ok (.iinc 16 1, 3) := by decide +kernel
theorem dL_areStacks_172 : decode cL_areStacks 172 = .ok (.goto (-108), 3) := by decide +kernel
theorem dL_areStacks_175 : decode cL_areStacks 175 = .ok (.aload_n 0, 1) := by decide +kernel
theorem dL_areStacks_176 : decode cL_areStacks 176 = .ok (.iload 9, 2) := by decide +kernel
theorem dL_areStacks_178 : decode cL_areStacks 178 = .ok (.iconst 0, 1) := by decide +kernel
theorem dL_areStacks_179 : decode cL_areStacks 179 = .ok (.invokevirtual 70, 3) := by decide +kernel
theorem dL_areStacks_182 : decode cL_areStacks 182 = .ok (.iload 10, 2) := by decide +kernel
theorem dL_areStacks_184 : decode cL_areStacks 184 = .ok (.if_icmp .ne 133, 3) := by decide +kernel
theorem dL_areStacks_187 : decode cL_areStacks 187 = .ok (.aload_n 0, 1) := by decide +kernel
theorem dL_areStacks_188 : decode cL_areStacks 188 = .ok (.iload 9, 2) := by decide +kernel
theorem dL_areStacks_190 : decode cL_areStacks 190 = .ok (.iconst 1, 1) := by decide +kernel
theorem dL_areStacks_191 : decode cL_areStacks 191 = .ok (.invokevirtual 70, 3) := by decide +kernel
theorem dL_areStacks_194 : decode cL_areStacks 194 = .ok (.iload 11, 2) := by decide +kernel
theorem dL_areStacks_196 : decode cL_areStacks 196 = .ok (.if_icmp .ne 121, 3) := by decide +kernel
theorem dL_areStacks_199 : decode cL_areStacks 199 = .ok (.aload_n 0, 1) := by decide +kernel
theorem dL_areStacks_200 : decode cL_areStacks 200 = .ok (.iload 9, 2) := by decide +kernel
theorem dL_areStacks_202 : decode cL_areStacks 202 = .ok (.iconst 2, 1) := by decide +kernel
theorem dL_areStacks_203 : decode cL_areStacks 203 = .ok (.invokevirtual 70, 3) := by decide +kernel
theorem dL_areStacks_206 : decode cL_areStacks 206 = .ok (.iload 12, 2) := by decide +kernel
theorem dL_areStacks_208 : decode cL_areStacks 208 = .ok (.if_icmp .ne 109, 3) := by decide +kernel
theorem dL_areStacks_211 : decode cL_areStacks 211 = .ok (.aload_n 0, 1) := by decide +kernel
theorem dL_areStacks_212 : decode cL_areStacks 212 = .ok (.iload 9, 2) := by decide +kernel
theorem dL_areStacks_214 : decode cL_areStacks 214 = .ok (.iconst 3, 1) := by decide +kernel
theorem dL_areStacks_215 : decode cL_areStacks 215 = .ok (.invokevirtual 70, 3) := by decide +kernel
theorem dL_areStacks_218 : decode cL_areStacks 218 = .ok (.iload 14, 2) := by decide +kernel
theorem dL_areStacks_220 : decode cL_areStacks 220 = .ok (.if_icmp .ne 97, 3) := by decide +kernel
theorem dL_areStacks_223 : decode cL_areStacks 223 = .ok (.aload_n 0, 1) := by decide +kernel
theorem dL_areStacks_224 : decode cL_areStacks 224 = .ok (.iload 9, 2) := by decide +kernel
theorem dL_areStacks_226 : decode cL_areStacks 226 = .ok (.iconst 4, 1) := by decide +kernel
theorem dL_areStacks_227 : decode cL_areStacks 227 = .ok (.invokevirtual 70, 3) := by decide +kernel
theorem dL_areStacks_230 : decode cL_areStacks 230 = .ok (.iload 10, 2) := by decide +kernel
theorem dL_areStacks_232 : decode cL_areStacks 232 = .ok (.ifCond .ne 7, 3) := by decide +kernel
theorem dL_areStacks_235 : decode cL_areStacks 235 = .ok (.iconst (-1), 1) := by decide +kernel
theorem dL_areStacks_236 : decode cL_areStacks 236 = .ok (.goto 14, 3) := by decide +kernel
theorem dL_areStacks_239 : decode cL_areStacks 239 = .ok (.aload 6, 2) := by decide +kernel
theorem dL_areStacks_241 : decode cL_areStacks 241 = .ok (.bipush 7, 2) := by decide +kernel
theorem dL_areStacks_243 : decode cL_areStacks 243 = .ok (.iload 9, 2) := by decide +kernel
theorem dL_areStacks_245 : decode cL_areStacks 245 = .ok (.imul, 1) := by decide +kernel
theorem dL_areStacks_246 : decode cL_areStacks 246 = .ok (.iload 10, 2) := by decide +kernel
theorem dL_areStacks_248 : decode cL_areStacks 248 = .ok (.iadd, 1) := by decide +kernel
theorem dL_areStacks_249 : decode cL_areStacks 249 = .ok (.iaload, 1) := by decide +kernel
theorem dL_areStacks_250 : decode cL_areStacks 250 = .ok (.if_icmp .ne 67, 3) := by decide +kernel
theorem dL_areStacks_253 : decode cL_areStacks 253 = .ok (.aload_n 0, 1) := by decide +kernel
theorem dL_areStacks_254 : decode cL_areStacks 254 = .ok (.iload 9, 2) := by decide +kernel
theorem dL_areStacks_256 : decode cL_areStacks 256 = .ok (.iconst 5, 1) := by decide +kernel
theorem dL_areStacks_257 : decode cL_areStacks 257 = .ok (.invokevirtual 70, 3) := by decide +kernel
theorem dL_areStacks_260 : decode cL_areStacks 260 = .ok (.iload 15, 2) := by decide +kernel
theorem dL_areStacks_262 : decode cL_areStacks 262 = .ok (.if_icmp .ne 55, 3) := by decide +kernel
theorem dL_areStacks_265 : decode cL_areStacks 265 = .ok (.aload_n 0, 1) := by decide +kernel
theorem dL_areStacks_266 : decode cL_areStacks 266 = .ok (.iload 9, 2) := by decide +kernel
theorem dL_areStacks_268 : decode cL_areStacks 268 = .ok (.bipush 6, 2) := by decide +kernel
theorem dL_areStacks_270 : decode cL_areStacks 270 = .ok (.invokevirtual 70, 3) := by decide +kernel
theorem dL_areStacks_273 : decode cL_areStacks 273 = .ok (.iload 12, 2) := by decide +kernel
theorem dL_areStacks_275 : decode cL_areStacks 275 = .ok (.sipush 1000, 3) := by decide +kernel
theorem dL_areStacks_278 : decode cL_areStacks 278 = .ok (.iload 11, 2) := by decide +kernel
theorem dL_areStacks_280 : decode cL_areStacks 280 = .ok (.imul, 1) := by decide +kernel
theorem dL_areStacks_281 : decode cL_areStacks 281 = .ok (.isub, 1) := by decide +kernel
theorem dL_areStacks_282 : decode cL_areStacks 282 = .ok (.invokestatic 9, 3) := by decide +kernel
theorem dL_areStacks_285 : decode cL_areStacks 285 = .ok (.if_icmp .ne 32, 3) := by decide +kernel
theorem dL_areStacks_288 : decode cL_areStacks 288 = .ok (.aload_n 0, 1) := by decide +kernel
theorem dL_areStacks_289 : decode cL_areStacks 289 = .ok (.iload 9, 2) := by decide +kernel
theorem dL_areStacks_291 : decode cL_areStacks 291 = .ok (.iload 7, 2) := by decide +kernel
theorem dL_areStacks_293 : decode cL_areStacks 293 = .ok (.invokevirtual 73, 3) := by decide +kernel
theorem dL_areStacks_296 : decode cL_areStacks 296 = .ok (.iload 13, 2) := by decide +kernel
theorem dL_areStacks_298 : decode cL_areStacks 298 = .ok (.if_icmp .ne 19, 3) := by decide +kernel
theorem dL_areStacks_301 : decode cL_areStacks 301 = .ok (.aload_n 0, 1) := by decide +kernel
theorem dL_areStacks_302 : decode cL_areStacks 302 = .ok (.iload 9, 2) := by decide +kernel
theorem dL_areStacks_304 : decode cL_areStacks 304 = .ok (.iconst 0, 1) := by decide +kernel
theorem dL_areStacks_305 : decode cL_areStacks 305 = .ok (.invokevirtual 73, 3) := by decide +kernel
theorem dL_areStacks_308 : decode cL_areStacks 308 = .ok (.iload 12, 2) := by decide +kernel
theorem dL_areStacks_310 : decode cL_areStacks 310 = .ok (.if_icmp .ne 7, 3) := by decide +kernel
theorem dL_areStacks_313 : decode cL_areStacks 313 = .ok (.iconst 1, 1) := by decide +kernel
theorem dL_areStacks_314 : decode cL_areStacks 314 = .ok (.goto 4, 3) := by decide +kernel
theorem dL_areStacks_317 : decode cL_areStacks 317 = .ok (.iconst 0, 1) := by decide +kernel
theorem dL_areStacks_318 : decode cL_areStacks 318 = .ok (.istore 8, 2) := by decide +kernel
theorem dL_areStacks_320 : decode cL_areStacks 320 = .ok (.iinc 9 1, 3) := by decide +kernel
theorem dL_areStacks_323 : decode cL_areStacks 323 = .ok (.goto (-317), 3) := by decide +kernel
theorem dL_areStacks_326 : decode cL_areStacks 326 = .ok (.iload 8, 2) := by decide +kernel
theorem dL_areStacks_328 : decode cL_areStacks 328 = .ok (.ireturn, 1) := by decide +kernel
set_option maxRecDepth 20000 in
theorem ggL_key_L_size : GoodIn wsL_key wsL_size := goodIn_r _ [5] (by decide +kernel) (by decide +kernel)
set_option maxRecDepth 20000 in
theorem gL_key_L_size : GoodIn wsL_key (va_wsS RL 9 yL_size wsL_size) := goodIn_app (goodIn_of _ (by decide +kernel)) ggL_key_L_size
theorem dL_key_0 : decode cL_key 0 = .ok (.iload 4, 2) := by decide +kernel
theorem dL_key_2 : decode cL_key 2 = .ok (.ifCond .ne 13, 3) := by decide +kernel
theorem dL_key_5 : decode cL_key 5 = .ok (.ldc 76, 2) := by decide +kernel
theorem dL_key_7 : decode cL_key 7 = .ok (.aload_n 0, 1) := by decide +kernel
theorem dL_key_8 : decode cL_key 8 = .ok (.iload 5, 2) := by decide +kernel
theorem dL_key_10 : decode cL_key 10 = .ok (.iaload, 1) := by decide +kernel
theorem dL_key_11 : decode cL_key 11 = .ok (.isub, 1) := by decide +kernel
theorem dL_key_12 : decode cL_key 12 = .ok (.goto 28, 3) := by decide +kernel
theorem dL_key_15 : decode cL_key 15 = .ok (.iload 4, 2) := by decide +kernel
theorem dL_key_17 : decode cL_key 17 = .ok (.iconst 1, 1) := by decide +kernel
theorem dL_key_18 : decode cL_key 18 = .ok (.if_icmp .ne 10, 3) := by decide +kernel
theorem dL_key_21 : decode cL_key 21 = .ok (.aload_n 3, 1) := by decide +kernel
theorem dL_key_22 : decode cL_key 22 = .ok (.iload 5, 2) := by decide +kernel
theorem dL_key_24 : decode cL_key 24 = .ok (.iaload, 1) := by decide +kernel
theorem dL_key_25 : decode cL_key 25 = .ok (.goto 15, 3) := by decide +kernel
theorem dL_key_28 : decode cL_key 28 = .ok (.aload_n 1, 1) := by decide +kernel
theorem dL_key_29 : decode cL_key 29 = .ok (.iload 5, 2) := by decide +kernel
theorem dL_key_31 : decode cL_key 31 = .ok (.iaload, 1) := by decide +kernel
theorem dL_key_32 : decode cL_key 32 = .ok (.aload_n 2, 1) := by decide +kernel
theorem dL_key_33 : decode cL_key 33 = .ok (.iload 5, 2) := by decide +kernel
theorem dL_key_35 : decode cL_key 35 = .ok (.iaload, 1) := by decide +kernel
theorem dL_key_36 : decode cL_key 36 = .ok (.isub, 1) := by decide +kernel
theorem dL_key_37 : decode cL_key 37 = .ok (.invokestatic 9, 3) := by decide +kernel
theorem dL_key_40 : decode cL_key 40 = .ok (.ireturn, 1) := by decide +kernel
set_option maxRecDepth 20000 in
theorem ggL_areRanked_X4_ranked : GoodIn wsL_areRanked wsX4_ranked := goodIn_ca (goodIn_r _ [7, 8, 9, 10, 6, 11, 12, 13, 14, 15, 16, 17, 18, 19, 20, 21, 22, 23, 24, 25, 26, 27, 28, 29, 30, 31, 32, 33, 34, 35, 36, 37, 38, 39, 40, 41, 42, 43, 44, 77, 78, 79, 80, 81, 82, 83, 84, 85, 86, 87, 88, 89, 90, 91, 92, 93] (by decide +kernel) (by decide +kernel)) (goodIn_sub (fun _ h => List.mem_cons_of_mem _ (List.mem_append_right _ h)) (by decide +kernel))
