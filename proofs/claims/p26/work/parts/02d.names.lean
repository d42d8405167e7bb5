theorem dX9_alike_33 : decode cX9_alike 33 = .ok (.ireturn, 1) := by decide +kernel
set_option maxRecDepth 20000 in
theorem ggX9_suffix_X6_placeOf : GoodIn wsX9_suffix wsX6_placeOf := goodIn_r _ [5, 6, 7, 8, 9, 10, 11, 12, 13, 4, 14, 15, 16, 17, 18, 19, 20, 21, 22, 23, 24, 25, 26, 27, 28, 29, 30, 31, 39, 40] (by decide +kernel) (by decide +kernel)
set_option maxRecDepth 20000 in
theorem gX9_suffix_X6_placeOf : GoodIn wsX9_suffix (va_wsS RX9 173 yX6_placeOf wsX6_placeOf) := goodIn_app (goodIn_of _ (by decide +kernel)) ggX9_suffix_X6_placeOf
theorem dX9_suffix_0 : decode cX9_suffix 0 = .ok (.iload_n 1, 1) := by decide +kernel
theorem dX9_suffix_1 : decode cX9_suffix 1 = .ok (.ifCond .ge 6, 3) := by decide +kernel
theorem dX9_suffix_4 : decode cX9_suffix 4 = .ok (.bipush (-2), 2) := by decide +kernel
theorem dX9_suffix_6 : decode cX9_suffix 6 = .ok (.ireturn, 1) := by decide +kernel
theorem dX9_suffix_7 : decode cX9_suffix 7 = .ok (.aload_n 0, 1) := by decide +kernel
theorem dX9_suffix_8 : decode cX9_suffix 8 = .ok (.getfield 10, 3) := by decide +kernel
theorem dX9_suffix_11 : decode cX9_suffix 11 = .ok (.iload_n 1, 1) := by decide +kernel
theorem dX9_suffix_12 : decode cX9_suffix 12 = .ok (.invokestatic 173, 3) := by decide +kernel
theorem dX9_suffix_15 : decode cX9_suffix 15 = .ok (.ireturn, 1) := by decide +kernel
set_option maxRecDepth 20000 in
theorem ggX9_square_X5_ranked : GoodIn wsX9_square wsX5_ranked := goodIn_r _ [5, 6, 7, 8, 9, 10, 11, 12, 13, 4, 14, 15, 16, 17, 18, 19, 20, 21, 22, 23, 24, 25, 26, 27, 35, 36] (by decide +kernel) (by decide +kernel)
set_option maxRecDepth 20000 in
theorem gX9_square_X5_ranked : GoodIn wsX9_square (va_wsS RX9 176 yX5_ranked wsX5_ranked) := goodIn_app (goodIn_of _ (by decide +kernel)) ggX9_square_X5_ranked
theorem dX9_square_0 : decode cX9_square 0 = .ok (.iload_n 1, 1) := by decide +kernel
theorem dX9_square_1 : decode cX9_square 1 = .ok (.ifCond .lt 12, 3) := by decide +kernel
theorem dX9_square_4 : decode cX9_square 4 = .ok (.iload_n 2, 1) := by decide +kernel
theorem dX9_square_5 : decode cX9_square 5 = .ok (.ifCond .lt 8, 3) := by decide +kernel
theorem dX9_square_8 : decode cX9_square 8 = .ok (.iload_n 2, 1) := by decide +kernel
theorem dX9_square_9 : decode cX9_square 9 = .ok (.iconst 1, 1) := by decide +kernel
theorem dX9_square_10 : decode cX9_square 10 = .ok (.if_icmp .le 6, 3) := by decide +kernel
theorem dX9_square_13 : decode cX9_square 13 = .ok (.bipush (-2), 2) := by decide +kernel
theorem dX9_square_15 : decode cX9_square 15 = .ok (.ireturn, 1) := by decide +kernel
theorem dX9_square_16 : decode cX9_square 16 = .ok (.aload_n 0, 1) := by decide +kernel
theorem dX9_square_17 : decode cX9_square 17 = .ok (.getfield 10, 3) := by decide +kernel
theorem dX9_square_20 : decode cX9_square 20 = .ok (.iload_n 1, 1) := by decide +kernel
theorem dX9_square_21 : decode cX9_square 21 = .ok (.iload_n 2, 1) := by decide +kernel
theorem dX9_square_22 : decode cX9_square 22 = .ok (.invokestatic 176, 3) := by decide +kernel
theorem dX9_square_25 : decode cX9_square 25 = .ok (.ireturn, 1) := by decide +kernel
set_option maxRecDepth 20000 in
theorem ggX9_run_X4_ranked : GoodIn wsX9_run wsX4_ranked := goodIn_r _ [5, 6, 7, 8, 9, 10, 11, 12, 13, 4, 14, 15, 16, 17, 18, 19, 20, 21, 22, 23, 24, 25, 26, 27, 28, 29, 30, 31, 32, 33, 34, 35, 36, 37, 38, 39, 40, 41, 42, 50, 51] (by decide +kernel) (by decide +kernel)
set_option maxRecDepth 20000 in
theorem gX9_run_X4_ranked : GoodIn wsX9_run (va_wsS RX9 179 yX4_ranked wsX4_ranked) := goodIn_app (goodIn_of _ (by decide +kernel)) ggX9_run_X4_ranked
theorem dX9_run_0 : decode cX9_run 0 = .ok (.iload_n 1, 1) := by decide +kernel
theorem dX9_run_1 : decode cX9_run 1 = .ok (.ifCond .lt 12, 3) := by decide +kernel
theorem dX9_run_4 : decode cX9_run 4 = .ok (.iload_n 2, 1) := by decide +kernel
theorem dX9_run_5 : decode cX9_run 5 = .ok (.ifCond .lt 8, 3) := by decide +kernel
theorem dX9_run_8 : decode cX9_run 8 = .ok (.iload_n 2, 1) := by decide +kernel
theorem dX9_run_9 : decode cX9_run 9 = .ok (.iconst 4, 1) := by decide +kernel
theorem dX9_run_10 : decode cX9_run 10 = .ok (.if_icmp .le 6, 3) := by decide +kernel
theorem dX9_run_13 : decode cX9_run 13 = .ok (.bipush (-2), 2) := by decide +kernel
theorem dX9_run_15 : decode cX9_run 15 = .ok (.ireturn, 1) := by decide +kernel
theorem dX9_run_16 : decode cX9_run 16 = .ok (.aload_n 0, 1) := by decide +kernel
theorem dX9_run_17 : decode cX9_run 17 = .ok (.getfield 10, 3) := by decide +kernel
theorem dX9_run_20 : decode cX9_run 20 = .ok (.iload_n 1, 1) := by decide +kernel
theorem dX9_run_21 : decode cX9_run 21 = .ok (.iload_n 2, 1) := by decide +kernel
theorem dX9_run_22 : decode cX9_run 22 = .ok (.invokestatic 179, 3) := by decide +kernel
theorem dX9_run_25 : decode cX9_run 25 = .ok (.ireturn, 1) := by decide +kernel
set_option maxRecDepth 20000 in
theorem ggX9_unlike_X8_length : GoodIn wsX9_unlike wsX8_length := goodIn_r _ [6, 7, 41, 42] (by decide +kernel) (by decide +kernel)
set_option maxRecDepth 20000 in
theorem gX9_unlike_X8_length : GoodIn wsX9_unlike (wsV RX9 63 RX8 yX8_length wsX8_length) := goodIn_app (goodIn_of _ (by decide +kernel)) ggX9_unlike_X8_length
set_option maxRecDepth 20000 in
theorem ggX9_unlike_X0_unlikeFactors : GoodIn wsX9_unlike wsX0_unlikeFactors := goodIn_r _ [11, 12, 13, 10, 14, 15, 16, 17, 18, 19, 20, 21, 22, 23, 24, 5, 25, 26, 27, 28, 29, 30, 31, 32, 7, 33, 41, 42] (by decide +kernel) (by decide +kernel)
set_option maxRecDepth 20000 in
theorem gX9_unlike_X0_unlikeFactors : GoodIn wsX9_unlike (va_wsS RX9 180 yX0_unlikeFactors wsX0_unlikeFactors) := goodIn_app (goodIn_of _ (by decide +kernel)) ggX9_unlike_X0_unlikeFactors
theorem dX9_unlike_0 : decode cX9_unlike 0 = .ok (.iload_n 1, 1) := by decide +kernel
theorem dX9_unlike_1 : decode cX9_unlike 1 = .ok (.ifCond .lt 14, 3) := by decide +kernel
theorem dX9_unlike_4 : decode cX9_unlike 4 = .ok (.iload_n 1, 1) := by decide +kernel
theorem dX9_unlike_5 : decode cX9_unlike 5 = .ok (.aload_n 0, 1) := by decide +kernel
theorem dX9_unlike_6 : decode cX9_unlike 6 = .ok (.getfield 10, 3) := by decide +kernel
theorem dX9_unlike_9 : decode cX9_unlike 9 = .ok (.invokevirtual 63, 3) := by decide +kernel
theorem dX9_unlike_12 : decode cX9_unlike 12 = .ok (.if_icmp .le 5, 3) := by decide +kernel
theorem dX9_unlike_15 : decode cX9_unlike 15 = .ok (.iconst (-1), 1) := by decide +kernel
theorem dX9_unlike_16 : decode cX9_unlike 16 = .ok (.ireturn, 1) := by decide +kernel
theorem dX9_unlike_17 : decode cX9_unlike 17 = .ok (.aload_n 0, 1) := by decide +kernel
theorem dX9_unlike_18 : decode cX9_unlike 18 = .ok (.getfield 10, 3) := by decide +kernel
theorem dX9_unlike_21 : decode cX9_unlike 21 = .ok (.iload_n 1, 1) := by decide +kernel
theorem dX9_unlike_22 : decode cX9_unlike 22 = .ok (.invokestatic 180, 3) := by decide +kernel
theorem dX9_unlike_25 : decode cX9_unlike 25 = .ok (.ireturn, 1) := by decide +kernel
set_option maxRecDepth 20000 in
theorem ggX9_ifLetter_X9_isLetter : GoodIn wsX9_ifLetter wsX9_isLetter := goodIn_r _ [5] (by decide +kernel) (by decide +kernel)
set_option maxRecDepth 20000 in
theorem gX9_ifLetter_X9_isLetter : GoodIn wsX9_ifLetter (va_wsS RX9 47 yX9_isLetter wsX9_isLetter) := goodIn_app (goodIn_of _ (by decide +kernel)) ggX9_ifLetter_X9_isLetter
set_option maxRecDepth 20000 in
theorem ggX9_ifLetter_X9_isBrought : GoodIn wsX9_ifLetter wsX9_isBrought := goodIn_r _ [8] (by decide +kernel) (by decide +kernel)
set_option maxRecDepth 20000 in
theorem gX9_ifLetter_X9_isBrought : GoodIn wsX9_ifLetter (va_wsS RX9 183 yX9_isBrought wsX9_isBrought) := goodIn_app (goodIn_of _ (by decide +kernel)) ggX9_ifLetter_X9_isBrought
set_option maxRecDepth 20000 in
theorem ggX9_ifLetter_X8_isFull : GoodIn wsX9_ifLetter wsX8_isFull := goodIn_r _ [13, 14, 110, 111] (by decide +kernel) (by decide +kernel)
set_option maxRecDepth 20000 in
theorem gX9_ifLetter_X8_isFull : GoodIn wsX9_ifLetter (wsV RX9 51 RX8 yX8_isFull wsX8_isFull) := goodIn_app (goodIn_of _ (by decide +kernel)) ggX9_ifLetter_X8_isFull
set_option maxRecDepth 20000 in
theorem ggX9_ifLetter_X9_broughtBy : GoodIn wsX9_ifLetter wsX9_broughtBy := goodIn_r _ [18, 19, 20, 21, 22, 4, 23, 1, 24, 25, 26, 12, 27, 28, 29, 30, 31, 14, 32, 33, 34, 35, 36, 37, 38, 39, 40, 41, 42, 43, 44, 45, 46, 47, 48, 49, 50, 51, 52, 53, 54, 55, 56, 57, 58, 59, 60, 61, 62, 63, 64, 65, 66, 67, 68, 69, 70, 71, 72, 73, 74, 75, 76, 77, 78, 79, 80, 81, 82, 83, 84, 85, 86, 87, 88, 89, 90, 91, 92, 93, 94, 95, 96, 97, 98, 99, 100, 101, 102, 103, 104, 105, 106, 107, 108, 109, 110, 111] (by decide +kernel) (by decide +kernel)
set_option maxRecDepth 20000 in
theorem gX9_ifLetter_X9_broughtBy : GoodIn wsX9_ifLetter (wsV RX9 186 RX9 yX9_broughtBy wsX9_broughtBy) := goodIn_app (goodIn_of _ (by decide +kernel)) ggX9_ifLetter_X9_broughtBy
theorem dX9_ifLetter_0 : decode cX9_ifLetter 0 = .ok (.iload_n 1, 1) := by decide +kernel
theorem dX9_ifLetter_1 : decode cX9_ifLetter 1 = .ok (.invokestatic 47, 3) := by decide +kernel
theorem dX9_ifLetter_4 : decode cX9_ifLetter 4 = .ok (.ifCond .eq 10, 3) := by decide +kernel
theorem dX9_ifLetter_7 : decode cX9_ifLetter 7 = .ok (.iload_n 2, 1) := by decide +kernel
theorem dX9_ifLetter_8 : decode cX9_ifLetter 8 = .ok (.invokestatic 183, 3) := by decide +kernel
theorem dX9_ifLetter_11 : decode cX9_ifLetter 11 = .ok (.ifCond .ne 6, 3) := by decide +kernel
theorem dX9_ifLetter_14 : decode cX9_ifLetter 14 = .ok (.bipush (-2), 2) := by decide +kernel
theorem dX9_ifLetter_16 : decode cX9_ifLetter 16 = .ok (.ireturn, 1) := by decide +kernel
theorem dX9_ifLetter_17 : decode cX9_ifLetter 17 = .ok (.aload_n 0, 1) := by decide +kernel
theorem dX9_ifLetter_18 : decode cX9_ifLetter 18 = .ok (.getfield 10, 3) := by decide +kernel
theorem dX9_ifLetter_21 : decode cX9_ifLetter 21 = .ok (.invokevirtual 51, 3) := by decide +kernel
theorem dX9_ifLetter_24 : decode cX9_ifLetter 24 = .ok (.ifCond .eq 6, 3) := by decide +kernel
theorem dX9_ifLetter_27 : decode cX9_ifLetter 27 = .ok (.bipush (-3), 2) := by decide +kernel
theorem dX9_ifLetter_29 : decode cX9_ifLetter 29 = .ok (.ireturn, 1) := by decide +kernel
theorem dX9_ifLetter_30 : decode cX9_ifLetter 30 = .ok (.aload_n 0, 1) := by decide +kernel
theorem dX9_ifLetter_31 : decode cX9_ifLetter 31 = .ok (.iload_n 1, 1) := by decide +kernel
theorem dX9_ifLetter_32 : decode cX9_ifLetter 32 = .ok (.iload_n 2, 1) := by decide +kernel
theorem dX9_ifLetter_33 : decode cX9_ifLetter 33 = .ok (.invokevirtual 186, 3) := by decide +kernel
theorem dX9_ifLetter_36 : decode cX9_ifLetter 36 = .ok (.ireturn, 1) := by decide +kernel
set_option maxRecDepth 20000 in
theorem ggX9_bestLetter_X9_isBrought : GoodIn wsX9_bestLetter wsX9_isBrought := goodIn_r _ [5] (by decide +kernel) (by decide +kernel)
set_option maxRecDepth 20000 in
theorem gX9_bestLetter_X9_isBrought : GoodIn wsX9_bestLetter (va_wsS RX9 183 yX9_isBrought wsX9_isBrought) := goodIn_app (goodIn_of _ (by decide +kernel)) ggX9_bestLetter_X9_isBrought
set_option maxRecDepth 20000 in
theorem ggX9_bestLetter_X8_isFull : GoodIn wsX9_bestLetter wsX8_isFull := goodIn_r _ [10, 11, 107, 108] (by decide +kernel) (by decide +kernel)
set_option maxRecDepth 20000 in
theorem gX9_bestLetter_X8_isFull : GoodIn wsX9_bestLetter (wsV RX9 51 RX8 yX8_isFull wsX8_isFull) := goodIn_app (goodIn_of _ (by decide +kernel)) ggX9_bestLetter_X8_isFull
set_option maxRecDepth 20000 in
theorem ggX9_bestLetter_X9_broughtBy : GoodIn wsX9_bestLetter wsX9_broughtBy := goodIn_r _ [15, 16, 17, 18, 19, 4, 20, 1, 21, 22, 23, 9, 24, 25, 26, 27, 28, 11, 29, 30, 31, 32, 33, 34, 35, 36, 37, 38, 39, 40, 41, 42, 43, 44, 45, 46, 47, 48, 49, 50, 51, 52, 53, 54, 55, 56, 57, 58, 59, 60, 61, 62, 63, 64, 65, 66, 67, 68, 69, 70, 71, 72, 73, 74, 75, 76, 77, 78, 79, 80, 81, 82, 83, 84, 85, 86, 87, 88, 89, 90, 91, 92, 93, 94, 95, 96, 97, 98, 99, 100, 101, 102, 103, 104, 105, 106, 107, 108] (by decide +kernel) (by decide +kernel)
set_option maxRecDepth 20000 in
theorem gX9_bestLetter_X9_broughtBy : GoodIn wsX9_bestLetter (wsV RX9 186 RX9 yX9_broughtBy wsX9_broughtBy) := goodIn_app (goodIn_of _ (by decide +kernel)) ggX9_bestLetter_X9_broughtBy
theorem dX9_bestLetter_0 : decode cX9_bestLetter 0 = .ok (.iload_n 1, 1) := by decide +kernel
theorem dX9_bestLetter_1 : decode cX9_bestLetter 1 = .ok (.invokestatic 183, 3) := by decide +kernel
theorem dX9_bestLetter_4 : decode cX9_bestLetter 4 = .ok (.ifCond .ne 6, 3) := by decide +kernel
theorem dX9_bestLetter_7 : decode cX9_bestLetter 7 = .ok (.bipush (-2), 2) := by decide +kernel
theorem dX9_bestLetter_9 : decode cX9_bestLetter 9 = .ok (.ireturn, 1) := by decide +kernel
theorem dX9_bestLetter_10 : decode cX9_bestLetter 10 = .ok (.aload_n 0, 1) := by decide +kernel
theorem dX9_bestLetter_11 : decode cX9_bestLetter 11 = .ok (.getfield 10, 3) := by decide +kernel
theorem dX9_bestLetter_14 : decode cX9_bestLetter 14 = .ok (.invokevirtual 51, 3) := by decide +kernel
theorem dX9_bestLetter_17 : decode cX9_bestLetter 17 = .ok (.ifCond .eq 6, 3) := by decide +kernel
theorem dX9_bestLetter_20 : decode cX9_bestLetter 20 = .ok (.bipush (-3), 2) := by decide +kernel
theorem dX9_bestLetter_22 : decode cX9_bestLetter 22 = .ok (.ireturn, 1) := by decide +kernel
theorem dX9_bestLetter_23 : decode cX9_bestLetter 23 = .ok (.iconst 0, 1) := by decide +kernel
theorem dX9_bestLetter_24 : decode cX9_bestLetter 24 = .ok (.istore_n 2, 1) := by decide +kernel
theorem dX9_bestLetter_25 : decode cX9_bestLetter 25 = .ok (.aload_n 0, 1) := by decide +kernel
theorem dX9_bestLetter_26 : decode cX9_bestLetter 26 = .ok (.iload_n 2, 1) := by decide +kernel
theorem dX9_bestLetter_27 : decode cX9_bestLetter 27 = .ok (.iload_n 1, 1) := by decide +kernel
theorem dX9_bestLetter_28 : decode cX9_bestLetter 28 = .ok (.invokevirtual 186, 3) := by decide +kernel
theorem dX9_bestLetter_31 : decode cX9_bestLetter 31 = .ok (.istore_n 3, 1) := by decide +kernel
theorem dX9_bestLetter_32 : decode cX9_bestLetter 32 = .ok (.iconst 1, 1) := by decide +kernel
theorem dX9_bestLetter_33 : decode cX9_bestLetter 33 = .ok (.istore 4, 2) := by decide +kernel
theorem dX9_bestLetter_35 : decode cX9_bestLetter 35 = .ok (.iload 4, 2) := by decide +kernel
theorem dX9_bestLetter_37 : decode cX9_bestLetter 37 = .ok (.bipush 26, 2) := by decide +kernel
theorem dX9_bestLetter_39 : decode cX9_bestLetter 39 = .ok (.if_icmp .ge 30, 3) := by decide +kernel
theorem dX9_bestLetter_42 : decode cX9_bestLetter 42 = .ok (.aload_n 0, 1) := by decide +kernel
theorem dX9_bestLetter_43 : decode cX9_bestLetter 43 = .ok (.iload 4, 2) := by decide +kernel
theorem dX9_bestLetter_45 : decode cX9_bestLetter 45 = .ok (.iload_n 1, 1) := by decide +kernel
theorem dX9_bestLetter_46 : decode cX9_bestLetter 46 = .ok (.invokevirtual 186, 3) := by decide +kernel
theorem dX9_bestLetter_49 : decode cX9_bestLetter 49 = .ok (.istore 5, 2) := by decide +kernel
theorem dX9_bestLetter_51 : decode cX9_bestLetter 51 = .ok (.iload 5, 2) := by decide +kernel
theorem dX9_bestLetter_53 : decode cX9_bestLetter 53 = .ok (.iload_n 3, 1) := by decide +kernel
theorem dX9_bestLetter_54 : decode cX9_bestLetter 54 = .ok (.if_icmp .le 9, 3) := by decide +kernel
theorem dX9_bestLetter_57 : decode cX9_bestLetter 57 = .ok (.iload 4, 2) := by decide +kernel
theorem dX9_bestLetter_59 : decode cX9_bestLetter 59 = .ok (.istore_n 2, 1) := by decide +kernel
theorem dX9_bestLetter_60 : decode cX9_bestLetter 60 = .ok (.iload 5, 2) := by decide +kernel
theorem dX9_bestLetter_62 : decode cX9_bestLetter 62 = .ok (.istore_n 3, 1) := by decide +kernel
theorem dX9_bestLetter_63 : decode cX9_bestLetter 63 = .ok (.iinc 4 1, 3) := by decide +kernel
theorem dX9_bestLetter_66 : decode cX9_bestLetter 66 = .ok (.goto (-31), 3) := by decide +kernel
theorem dX9_bestLetter_69 : decode cX9_bestLetter 69 = .ok (.iload_n 2, 1) := by decide +kernel
theorem dX9_bestLetter_70 : decode cX9_bestLetter 70 = .ok (.ireturn, 1) := by decide +kernel
set_option maxRecDepth 20000 in
theorem ggX9_count_X8_length : GoodIn wsX9_count wsX8_length := goodIn_r _ [8, 9, 128, 129] (by decide +kernel) (by decide +kernel)
set_option maxRecDepth 20000 in
theorem gX9_count_X8_length : GoodIn wsX9_count (wsV RX9 63 RX8 yX8_length wsX8_length) := goodIn_app (goodIn_of _ (by decide +kernel)) ggX9_count_X8_length
set_option maxRecDepth 20000 in
theorem ggX9_count_X8_unlikeLetters : GoodIn wsX9_count wsX8_unlikeLetters := goodIn_r _ [13, 9, 14, 15, 16, 7, 17, 18, 19, 20, 21, 22, 23, 24, 25, 128, 129] (by decide +kernel) (by decide +kernel)
set_option maxRecDepth 20000 in
theorem gX9_count_X8_unlikeLetters : GoodIn wsX9_count (wsV RX9 189 RX8 yX8_unlikeLetters wsX8_unlikeLetters) := goodIn_app (goodIn_of _ (by decide +kernel)) ggX9_count_X8_unlikeLetters
set_option maxRecDepth 20000 in
theorem ggX9_count_X0_unlikeFactors : GoodIn wsX9_count wsX0_unlikeFactors := goodIn_r _ [29, 30, 31, 28, 32, 33, 34, 35, 36, 37, 38, 39, 40, 41, 42, 7, 43, 44, 45, 46, 14, 15, 16, 17, 9, 18, 128, 129] (by decide +kernel) (by decide +kernel)
set_option maxRecDepth 20000 in
theorem gX9_count_X0_unlikeFactors : GoodIn wsX9_count (va_wsS RX9 180 yX0_unlikeFactors wsX0_unlikeFactors) := goodIn_app (goodIn_of _ (by decide +kernel)) ggX9_count_X0_unlikeFactors
set_option maxRecDepth 20000 in
theorem ggX9_count_X0_classes : GoodIn wsX9_count wsX0_classes := goodIn_r _ [49, 50, 5, 6, 7, 8, 9, 51, 52, 28, 53, 33, 34, 35, 36, 37, 38, 39, 40, 41, 42, 43, 44, 45, 46, 14, 15, 16, 17, 18, 54, 55, 56, 57, 58, 59, 60, 128, 129] (by decide +kernel) (by decide +kernel)
set_option maxRecDepth 20000 in
theorem gX9_count_X0_classes : GoodIn wsX9_count (va_wsS RX9 192 yX0_classes wsX0_classes) := goodIn_app (goodIn_of _ (by decide +kernel)) ggX9_count_X0_classes
set_option maxRecDepth 20000 in
theorem ggX9_count_X5_total : GoodIn wsX9_count wsX5_total := goodIn_r _ [64, 65, 5, 6, 7, 8, 9, 66, 67, 63, 68, 69, 70, 71, 72, 73, 74, 75, 76, 37, 38, 39, 14, 15, 16, 17, 18, 128, 129] (by decide +kernel) (by decide +kernel)
set_option maxRecDepth 20000 in
theorem gX9_count_X5_total : GoodIn wsX9_count (va_wsS RX9 196 yX5_total wsX5_total) := goodIn_app (goodIn_of _ (by decide +kernel)) ggX9_count_X5_total
set_option maxRecDepth 20000 in
theorem ggX9_count_X4_total : GoodIn wsX9_count wsX4_total := goodIn_r _ [80, 81, 5, 6, 7, 8, 9, 82, 83, 79, 84, 85, 15, 16, 17, 18, 86, 73, 74, 75, 76, 37, 38, 39, 14, 87, 88, 89, 90, 91, 92, 93, 94, 128, 129] (by decide +kernel) (by decide +kernel)
set_option maxRecDepth 20000 in
theorem gX9_count_X4_total : GoodIn wsX9_count (va_wsS RX9 199 yX4_total wsX4_total) := goodIn_app (goodIn_of _ (by decide +kernel)) ggX9_count_X4_total
set_option maxRecDepth 20000 in
theorem ggX9_count_X2_longestBorder : GoodIn wsX9_count wsX2_longestBorder := goodIn_r _ [97, 98, 88, 89, 90, 91, 92, 93, 94, 15, 16, 7, 17, 9, 18, 128, 129] (by decide +kernel) (by decide +kernel)
set_option maxRecDepth 20000 in
theorem gX9_count_X2_longestBorder : GoodIn wsX9_count (va_wsS RX9 67 yX2_longestBorder wsX2_longestBorder) := goodIn_app (goodIn_of _ (by decide +kernel)) ggX9_count_X2_longestBorder
set_option maxRecDepth 20000 in
theorem ggX9_count_X2_least : GoodIn wsX9_count wsX2_least := goodIn_r _ [90, 91, 92, 89, 93, 94, 15, 16, 7, 17, 9, 18, 128, 129] (by decide +kernel) (by decide +kernel)
set_option maxRecDepth 20000 in
theorem gX9_count_X2_least : GoodIn wsX9_count (va_wsS RX9 159 yX2_least wsX2_least) := goodIn_app (goodIn_of _ (by decide +kernel)) ggX9_count_X2_least
set_option maxRecDepth 20000 in
theorem ggX9_count_X0_longestTwice : GoodIn wsX9_count wsX0_longestTwice := goodIn_r _ [102, 36, 37, 38, 39, 50, 5, 6, 7, 8, 9, 33, 34, 28, 35, 40, 41, 42, 43, 44, 45, 46, 14, 15, 16, 17, 18, 128, 129] (by decide +kernel) (by decide +kernel)
set_option maxRecDepth 20000 in
theorem gX9_count_X0_longestTwice : GoodIn wsX9_count (va_wsS RX9 200 yX0_longestTwice wsX0_longestTwice) := goodIn_app (goodIn_of _ (by decide +kernel)) ggX9_count_X0_longestTwice
set_option maxRecDepth 20000 in
theorem ggX9_count_X5_unlikeTotal : GoodIn wsX9_count wsX5_unlikeTotal := goodIn_r _ [105, 65, 5, 6, 7, 8, 9, 69, 70, 63, 71, 72, 73, 74, 75, 76, 37, 38, 39, 14, 15, 16, 17, 18, 106, 107, 108, 128, 129] (by decide +kernel) (by decide +kernel)
set_option maxRecDepth 20000 in
theorem gX9_count_X5_unlikeTotal : GoodIn wsX9_count (va_wsS RX9 203 yX5_unlikeTotal wsX5_unlikeTotal) := goodIn_app (goodIn_of _ (by decide +kernel)) ggX9_count_X5_unlikeTotal
set_option maxRecDepth 20000 in
theorem ggX9_count_X1_size : GoodIn wsX9_count wsX1_size := goodIn_r _ [113, 114, 130, 131, 132] (by decide +kernel) (by decide +kernel)
set_option maxRecDepth 20000 in
theorem gX9_count_X1_size : GoodIn wsX9_count (wsV RX9 114 RX1 yX1_size wsX1_size) := goodIn_app (goodIn_of _ (by decide +kernel)) ggX9_count_X1_size
set_option maxRecDepth 20000 in
theorem ggX9_count_X7_length : GoodIn wsX9_count wsX7_length := goodIn_r _ [119, 120, 133, 134] (by decide +kernel) (by decide +kernel)
set_option maxRecDepth 20000 in
theorem gX9_count_X7_length : GoodIn wsX9_count (wsV RX9 112 RX7 yX7_length wsX7_length) := goodIn_app (goodIn_of _ (by decide +kernel)) ggX9_count_X7_length
theorem dX9_count_0 : decode cX9_count 0 = .ok (.aload_n 0, 1) := by decide +kernel
theorem dX9_count_1 : decode cX9_count 1 = .ok (.getfield 10, 3) := by decide +kernel
theorem dX9_count_4 : decode cX9_count 4 = .ok (.invokevirtual 63, 3) := by decide +kernel
theorem dX9_count_7 : decode cX9_count 7 = .ok (.istore_n 2, 1) := by decide +kernel
theorem dX9_count_8 : decode cX9_count 8 = .ok (.iload_n 1, 1) := by decide +kernel
theorem dX9_count_9 : decode cX9_count 9 = .ok (.tableswitch 158 0 11 #[63, 65, 73, 82, 90, 98, 106, 116, 126, 134, 142, 150], 63) := by decide +kernel
theorem dX9_count_72 : decode cX9_count 72 = .ok (.iload_n 2, 1) := by decide +kernel
theorem dX9_count_73 : decode cX9_count 73 = .ok (.ireturn, 1) := by decide +kernel
theorem dX9_count_74 : decode cX9_count 74 = .ok (.aload_n 0, 1) := by decide +kernel
theorem dX9_count_75 : decode cX9_count 75 = .ok (.getfield 10, 3) := by decide +kernel
theorem dX9_count_78 : decode cX9_count 78 = .ok (.invokevirtual 189, 3) := by decide +kernel
theorem dX9_count_81 : decode cX9_count 81 = .ok (.ireturn, 1) := by decide +kernel
theorem dX9_count_82 : decode cX9_count 82 = .ok (.aload_n 0, 1) := by decide +kernel
theorem dX9_count_83 : decode cX9_count 83 = .ok (.getfield 10, 3) := by decide +kernel
theorem dX9_count_86 : decode cX9_count 86 = .ok (.iload_n 2, 1) := by decide +kernel
theorem dX9_count_87 : decode cX9_count 87 = .ok (.invokestatic 180, 3) := by decide +kernel
theorem dX9_count_90 : decode cX9_count 90 = .ok (.ireturn, 1) := by decide +kernel
theorem dX9_count_91 : decode cX9_count 91 = .ok (.aload_n 0, 1) := by decide +kernel
theorem dX9_count_92 : decode cX9_count 92 = .ok (.getfield 10, 3) := by decide +kernel
theorem dX9_count_95 : decode cX9_count 95 = .ok (.invokestatic 192, 3) := by decide +kernel
theorem dX9_count_98 : decode cX9_count 98 = .ok (.ireturn, 1) := by decide +kernel
theorem dX9_count_99 : decode cX9_count 99 = .ok (.aload_n 0, 1) := by decide +kernel
theorem dX9_count_100 : decode cX9_count 100 = .ok (.getfield 10, 3) := by decide +kernel
theorem dX9_count_103 : decode cX9_count 103 = .ok (.invokestatic 196, 3) := by decide +kernel
theorem dX9_count_106 : decode cX9_count 106 = .ok (.ireturn, 1) := by decide +kernel
theorem dX9_count_107 : decode cX9_count 107 = .ok (.aload_n 0, 1) := by decide +kernel
theorem dX9_count_108 : decode cX9_count 108 = .ok (.getfield 10, 3) := by decide +kernel
theorem dX9_count_111 : decode cX9_count 111 = .ok (.invokestatic 199, 3) := by decide +kernel
theorem dX9_count_114 : decode cX9_count 114 = .ok (.ireturn, 1) := by decide +kernel
theorem dX9_count_115 : decode cX9_count 115 = .ok (.aload_n 0, 1) := by decide +kernel
theorem dX9_count_116 : decode cX9_count 116 = .ok (.getfield 10, 3) := by decide +kernel
theorem dX9_count_119 : decode cX9_count 119 = .ok (.iconst 0, 1) := by decide +kernel
theorem dX9_count_120 : decode cX9_count 120 = .ok (.iload_n 2, 1) := by decide +kernel
theorem dX9_count_121 : decode cX9_count 121 = .ok (.invokestatic 67, 3) := by decide +kernel
theorem dX9_count_124 : decode cX9_count 124 = .ok (.ireturn, 1) := by decide +kernel
theorem dX9_count_125 : decode cX9_count 125 = .ok (.aload_n 0, 1) := by decide +kernel
theorem dX9_count_126 : decode cX9_count 126 = .ok (.getfield 10, 3) := by decide +kernel
theorem dX9_count_129 : decode cX9_count 129 = .ok (.iconst 0, 1) := by decide +kernel
theorem dX9_count_130 : decode cX9_count 130 = .ok (.iload_n 2, 1) := by decide +kernel
theorem dX9_count_131 : decode cX9_count 131 = .ok (.invokestatic 159, 3) := by decide +kernel
theorem dX9_count_134 : decode cX9_count 134 = .ok (.ireturn, 1) := by decide +kernel
theorem dX9_count_135 : decode cX9_count 135 = .ok (.aload_n 0, 1) := by decide +kernel
theorem dX9_count_136 : decode cX9_count 136 = .ok (.getfield 10, 3) := by decide +kernel
theorem dX9_count_139 : decode cX9_count 139 = .ok (.invokestatic 200, 3) := by decide +kernel
theorem dX9_count_142 : decode cX9_count 142 = .ok (.ireturn, 1) := by decide +kernel
theorem dX9_count_143 : decode cX9_count 143 = .ok (.aload_n 0, 1) := by decide +kernel
theorem dX9_count_144 : decode cX9_count 144 = .ok (.getfield 10, 3) := by decide +kernel
theorem dX9_count_147 : decode cX9_count 147 = .ok (.invokestatic 203, 3) := by decide +kernel
theorem dX9_count_150 : decode cX9_count 150 = .ok (.ireturn, 1) := by decide +kernel
theorem dX9_count_151 : decode cX9_count 151 = .ok (.aload_n 0, 1) := by decide +kernel
theorem dX9_count_152 : decode cX9_count 152 = .ok (.getfield 29, 3) := by decide +kernel
theorem dX9_count_155 : decode cX9_count 155 = .ok (.invokevirtual 114, 3) := by decide +kernel
theorem dX9_count_158 : decode cX9_count 158 = .ok (.ireturn, 1) := by decide +kernel
theorem dX9_count_159 : decode cX9_count 159 = .ok (.aload_n 0, 1) := by decide +kernel
theorem dX9_count_160 : decode cX9_count 160 = .ok (.getfield 36, 3) := by decide +kernel
theorem dX9_count_163 : decode cX9_count 163 = .ok (.invokevirtual 112, 3) := by decide +kernel
theorem dX9_count_166 : decode cX9_count 166 = .ok (.ireturn, 1) := by decide +kernel
theorem dX9_count_167 : decode cX9_count 167 = .ok (.bipush (-2), 2) := by decide +kernel
theorem dX9_count_169 : decode cX9_count 169 = .ok (.ireturn, 1) := by decide +kernel
theorem dX9_isLetter_0 : decode cX9_isLetter 0 = .ok (.iload_n 0, 1) := by decide +kernel
theorem dX9_isLetter_1 : decode cX9_isLetter 1 = .ok (.ifCond .lt 13, 3) := by decide +kernel
theorem dX9_isLetter_4 : decode cX9_isLetter 4 = .ok (.iload_n 0, 1) := by decide +kernel
theorem dX9_isLetter_5 : decode cX9_isLetter 5 = .ok (.bipush 26, 2) := by decide +kernel
theorem dX9_isLetter_7 : decode cX9_isLetter 7 = .ok (.if_icmp .ge 7, 3) := by decide +kernel
theorem dX9_isLetter_10 : decode cX9_isLetter 10 = .ok (.iconst 1, 1) := by decide +kernel
theorem dX9_isLetter_11 : decode cX9_isLetter 11 = .ok (.goto 4, 3) := by decide +kernel
theorem dX9_isLetter_14 : decode cX9_isLetter 14 = .ok (.iconst 0, 1) := by decide +kernel
theorem dX9_isLetter_15 : decode cX9_isLetter 15 = .ok (.ireturn, 1) := by decide +kernel
theorem dX9_isBrought_0 : decode cX9_isBrought 0 = .ok (.iload_n 0, 1) := by decide +kernel
theorem dX9_isBrought_1 : decode cX9_isBrought 1 = .ok (.ifCond .lt 12, 3) := by decide +kernel
theorem dX9_isBrought_4 : decode cX9_isBrought 4 = .ok (.iload_n 0, 1) := by decide +kernel
theorem dX9_isBrought_5 : decode cX9_isBrought 5 = .ok (.iconst 3, 1) := by decide +kernel
theorem dX9_isBrought_6 : decode cX9_isBrought 6 = .ok (.if_icmp .gt 7, 3) := by decide +kernel
theorem dX9_isBrought_9 : decode cX9_isBrought 9 = .ok (.iconst 1, 1) := by decide +kernel
theorem dX9_isBrought_10 : decode cX9_isBrought 10 = .ok (.goto 4, 3) := by decide +kernel
theorem dX9_isBrought_13 : decode cX9_isBrought 13 = .ok (.iconst 0, 1) := by decide +kernel
theorem dX9_isBrought_14 : decode cX9_isBrought 14 = .ok (.ireturn, 1) := by decide +kernel
set_option maxRecDepth 20000 in
theorem ggX9_draftWith_X8_copyFrom : GoodIn wsX9_draftWith wsX8_copyFrom := goodIn_r _ [7, 8, 9, 10, 6, 11, 12, 13, 14, 15, 16, 17, 18, 19, 20, 21, 22, 23, 24, 25, 26, 27, 28, 29, 38, 39] (by decide +kernel) (by decide +kernel)
set_option maxRecDepth 20000 in
theorem gX9_draftWith_X8_copyFrom : GoodIn wsX9_draftWith (wsV RX9 98 RX8 yX8_copyFrom wsX8_copyFrom) := goodIn_app (goodIn_of _ (by decide +kernel)) ggX9_draftWith_X8_copyFrom
set_option maxRecDepth 20000 in
theorem ggX9_draftWith_X8_append : GoodIn wsX9_draftWith wsX8_append := goodIn_r _ [29, 12, 25, 38, 39] (by decide +kernel) (by decide +kernel)
set_option maxRecDepth 20000 in
theorem gX9_draftWith_X8_append : GoodIn wsX9_draftWith (wsV RX9 87 RX8 yX8_append wsX8_append) := goodIn_app (goodIn_of _ (by decide +kernel)) ggX9_draftWith_X8_append
theorem dX9_draftWith_0 : decode cX9_draftWith 0 = .ok (.aload_n 0, 1) := by decide +kernel
theorem dX9_draftWith_1 : decode cX9_draftWith 1 = .ok (.getfield 16, 3) := by decide +kernel
theorem dX9_draftWith_4 : decode cX9_draftWith 4 = .ok (.aload_n 0, 1) := by decide +kernel
theorem dX9_draftWith_5 : decode cX9_draftWith 5 = .ok (.getfield 10, 3) := by decide +kernel
theorem dX9_draftWith_8 : decode cX9_draftWith 8 = .ok (.invokevirtual 98, 3) := by decide +kernel
theorem dX9_draftWith_11 : decode cX9_draftWith 11 = .ok (.aload_n 0, 1) := by decide +kernel
theorem dX9_draftWith_12 : decode cX9_draftWith 12 = .ok (.getfield 16, 3) := by decide +kernel
theorem dX9_draftWith_15 : decode cX9_draftWith 15 = .ok (.iload_n 1, 1) := by decide +kernel
theorem dX9_draftWith_16 : decode cX9_draftWith 16 = .ok (.invokevirtual 87, 3) := by decide +kernel
theorem dX9_draftWith_19 : decode cX9_draftWith 19 = .ok (.return_, 1) := by decide +kernel
set_option maxRecDepth 20000 in
theorem ggX9_become_X1_record : GoodIn wsX9_become wsX1_record := goodIn_r _ [7, 8, 9, 10, 11, 12, 13, 14, 15, 16, 17, 6, 18, 19, 20, 21, 22, 23, 24, 25, 26, 27, 28, 29, 30, 31, 32, 33, 34, 35, 36, 37, 38, 39, 40, 41, 42, 43, 44, 45, 54, 55, 56, 57, 58] (by decide +kernel) (by decide +kernel)
set_option maxRecDepth 20000 in
theorem gX9_become_X1_record : GoodIn wsX9_become (wsV RX9 206 RX1 yX1_record wsX1_record) := goodIn_app (goodIn_of _ (by decide +kernel)) ggX9_become_X1_record
set_option maxRecDepth 20000 in
theorem ggX9_become_X8_copyFrom : GoodIn wsX9_become wsX8_copyFrom := goodIn_r _ [23, 24, 25, 26, 22, 27, 28, 29, 30, 31, 32, 33, 34, 35, 36, 37, 38, 39, 40, 41, 42, 43, 44, 45, 57, 58] (by decide +kernel) (by decide +kernel)
set_option maxRecDepth 20000 in
theorem gX9_become_X8_copyFrom : GoodIn wsX9_become (wsV RX9 98 RX8 yX8_copyFrom wsX8_copyFrom) := goodIn_app (goodIn_of _ (by decide +kernel)) ggX9_become_X8_copyFrom
theorem dX9_become_0 : decode cX9_become 0 = .ok (.aload_n 0, 1) := by decide +kernel
theorem dX9_become_1 : decode cX9_become 1 = .ok (.getfield 29, 3) := by decide +kernel
theorem dX9_become_4 : decode cX9_become 4 = .ok (.aload_n 0, 1) := by decide +kernel
theorem dX9_become_5 : decode cX9_become 5 = .ok (.getfield 10, 3) := by decide +kernel
theorem dX9_become_8 : decode cX9_become 8 = .ok (.invokevirtual 206, 3) := by decide +kernel
theorem dX9_become_11 : decode cX9_become 11 = .ok (.aload_n 0, 1) := by decide +kernel
theorem dX9_become_12 : decode cX9_become 12 = .ok (.getfield 10, 3) := by decide +kernel
theorem dX9_become_15 : decode cX9_become 15 = .ok (.aload_n 1, 1) := by decide +kernel
theorem dX9_become_16 : decode cX9_become 16 = .ok (.invokevirtual 98, 3) := by decide +kernel
theorem dX9_become_19 : decode cX9_become 19 = .ok (.return_, 1) := by decide +kernel
set_option maxRecDepth 20000 in
theorem ggX9_broughtBy_X9_draftWith : GoodIn wsX9_broughtBy wsX9_draftWith := goodIn_r _ [6, 1, 7, 8, 9, 10, 11, 12, 13, 14, 15, 16, 17, 18, 19, 20, 21, 22, 23, 24, 25, 26, 27, 28, 29, 30, 31, 32, 33, 34, 35, 89, 90, 91, 92, 93, 94, 95, 96, 97] (by decide +kernel) (by decide +kernel)
set_option maxRecDepth 20000 in
theorem gX9_broughtBy_X9_draftWith : GoodIn wsX9_broughtBy (wsV RX9 55 RX9 yX9_draftWith wsX9_draftWith) := goodIn_app (goodIn_of _ (by decide +kernel)) ggX9_broughtBy_X9_draftWith
set_option maxRecDepth 20000 in
theorem ggX9_broughtBy_X8_length : GoodIn wsX9_broughtBy wsX8_length := goodIn_r _ [21, 17, 96, 97] (by decide +kernel) (by decide +kernel)
set_option maxRecDepth 20000 in
theorem gX9_broughtBy_X8_length : GoodIn wsX9_broughtBy (wsV RX9 63 RX8 yX8_length wsX8_length) := goodIn_app (goodIn_of _ (by decide +kernel)) ggX9_broughtBy_X8_length
set_option maxRecDepth 20000 in
theorem ggX9_broughtBy_X2_longestBorder : GoodIn wsX9_broughtBy wsX2_longestBorder := goodIn_r _ [40, 41, 42, 39, 43, 44, 45, 46, 47, 27, 28, 11, 29, 17, 30, 96, 97] (by decide +kernel) (by decide +kernel)
set_option maxRecDepth 20000 in
theorem gX9_broughtBy_X2_longestBorder : GoodIn wsX9_broughtBy (va_wsS RX9 67 yX2_longestBorder wsX2_longestBorder) := goodIn_app (goodIn_of _ (by decide +kernel)) ggX9_broughtBy_X2_longestBorder
set_option maxRecDepth 20000 in
theorem ggX9_broughtBy_X0_endingFirstAt : GoodIn wsX9_broughtBy wsX0_endingFirstAt := goodIn_r _ [51, 52, 53, 50, 54, 55, 56, 57, 58, 59, 60, 61, 11, 62, 63, 64, 65, 26, 27, 28, 29, 17, 30, 96, 97] (by decide +kernel) (by decide +kernel)
set_option maxRecDepth 20000 in
theorem gX9_broughtBy_X0_endingFirstAt : GoodIn wsX9_broughtBy (va_wsS RX9 209 yX0_endingFirstAt wsX0_endingFirstAt) := goodIn_app (goodIn_of _ (by decide +kernel)) ggX9_broughtBy_X0_endingFirstAt
set_option maxRecDepth 20000 in
theorem ggX9_broughtBy_X5_endingAt : GoodIn wsX9_broughtBy wsX5_endingAt := goodIn_r _ [69, 70, 71, 68, 72, 73, 74, 75, 11, 76, 17, 77, 56, 57, 58, 26, 27, 28, 29, 30, 96, 97] (by decide +kernel) (by decide +kernel)
set_option maxRecDepth 20000 in
theorem gX9_broughtBy_X5_endingAt : GoodIn wsX9_broughtBy (va_wsS RX9 131 yX5_endingAt wsX5_endingAt) := goodIn_app (goodIn_of _ (by decide +kernel)) ggX9_broughtBy_X5_endingAt
set_option maxRecDepth 20000 in
theorem ggX9_broughtBy_X4_total : GoodIn wsX9_broughtBy wsX4_total := goodIn_r _ [81, 82, 19, 20, 11, 21, 17, 83, 84, 80, 85, 86, 27, 28, 29, 30, 87, 74, 75, 76, 77, 56, 57, 58, 26, 88, 42, 39, 43, 44, 45, 46, 47, 96, 97] (by decide +kernel) (by decide +kernel)
set_option maxRecDepth 20000 in
theorem gX9_broughtBy_X4_total : GoodIn wsX9_broughtBy (va_wsS RX9 199 yX4_total wsX4_total) := goodIn_app (goodIn_of _ (by decide +kernel)) ggX9_broughtBy_X4_total
theorem dX9_broughtBy_0 : decode cX9_broughtBy 0 = .ok (.aload_n 0, 1) := by decide +kernel
theorem dX9_broughtBy_1 : decode cX9_broughtBy 1 = .ok (.iload_n 1, 1) := by decide +kernel
theorem dX9_broughtBy_2 : decode cX9_broughtBy 2 = .ok (.invokevirtual 55, 3) := by decide +kernel
theorem dX9_broughtBy_5 : decode cX9_broughtBy 5 = .ok (.aload_n 0, 1) := by decide +kernel
theorem dX9_broughtBy_6 : decode cX9_broughtBy 6 = .ok (.getfield 16, 3) := by decide +kernel
theorem dX9_broughtBy_9 : decode cX9_broughtBy 9 = .ok (.invokevirtual 63, 3) := by decide +kernel
theorem dX9_broughtBy_12 : decode cX9_broughtBy 12 = .ok (.istore_n 3, 1) := by decide +kernel
theorem dX9_broughtBy_13 : decode cX9_broughtBy 13 = .ok (.iload_n 2, 1) := by decide +kernel
theorem dX9_broughtBy_14 : decode cX9_broughtBy 14 = .ok (.tableswitch 54 0 2 #[26, 36, 45], 26) := by decide +kernel
theorem dX9_broughtBy_40 : decode cX9_broughtBy 40 = .ok (.aload_n 0, 1) := by decide +kernel
theorem dX9_broughtBy_41 : decode cX9_broughtBy 41 = .ok (.getfield 16, 3) := by decide +kernel
theorem dX9_broughtBy_44 : decode cX9_broughtBy 44 = .ok (.iconst 0, 1) := by decide +kernel
theorem dX9_broughtBy_45 : decode cX9_broughtBy 45 = .ok (.iload_n 3, 1) := by decide +kernel
theorem dX9_broughtBy_46 : decode cX9_broughtBy 46 = .ok (.invokestatic 67, 3) := by decide +kernel
theorem dX9_broughtBy_49 : decode cX9_broughtBy 49 = .ok (.ireturn, 1) := by decide +kernel
theorem dX9_broughtBy_50 : decode cX9_broughtBy 50 = .ok (.aload_n 0, 1) := by decide +kernel
theorem dX9_broughtBy_51 : decode cX9_broughtBy 51 = .ok (.getfield 16, 3) := by decide +kernel
theorem dX9_broughtBy_54 : decode cX9_broughtBy 54 = .ok (.iload_n 3, 1) := by decide +kernel
theorem dX9_broughtBy_55 : decode cX9_broughtBy 55 = .ok (.invokestatic 209, 3) := by decide +kernel
theorem dX9_broughtBy_58 : decode cX9_broughtBy 58 = .ok (.ireturn, 1) := by decide +kernel
theorem dX9_broughtBy_59 : decode cX9_broughtBy 59 = .ok (.aload_n 0, 1) := by decide +kernel
theorem dX9_broughtBy_60 : decode cX9_broughtBy 60 = .ok (.getfield 16, 3) := by decide +kernel
theorem dX9_broughtBy_63 : decode cX9_broughtBy 63 = .ok (.iload_n 3, 1) := by decide +kernel
theorem dX9_broughtBy_64 : decode cX9_broughtBy 64 = .ok (.invokestatic 131, 3) := by decide +kernel
theorem dX9_broughtBy_67 : decode cX9_broughtBy 67 = .ok (.ireturn, 1) := by decide +kernel
theorem dX9_broughtBy_68 : decode cX9_broughtBy 68 = .ok (.aload_n 0, 1) := by decide +kernel
theorem dX9_broughtBy_69 : decode cX9_broughtBy 69 = .ok (.getfield 16, 3) := by decide +kernel
theorem dX9_broughtBy_72 : decode cX9_broughtBy 72 = .ok (.invokestatic 199, 3) := by decide +kernel
theorem dX9_broughtBy_75 : decode cX9_broughtBy 75 = .ok (.ireturn, 1) := by decide +kernel
theorem dJ6_bitCount_0f7a4_0 : decode cJ6_bitCount_0f7a4 0 = .ok (.iload_n 0, 1) := by decide +kernel
theorem dJ6_bitCount_0f7a4_1 : decode cJ6_bitCount_0f7a4 1 = .ok (.iload_n 0, 1) := by decide +kernel
theorem dJ6_bitCount_0f7a4_2 : decode cJ6_bitCount_0f7a4 2 = .ok (.iconst 1, 1) := by decide +kernel
theorem dJ6_bitCount_0f7a4_3 : decode cJ6_bitCount_0f7a4 3 = .ok (.iushr, 1) := by decide +kernel
theorem dJ6_bitCount_0f7a4_4 : decode cJ6_bitCount_0f7a4 4 = .ok (.ldc_w 265, 3) := by decide +kernel
theorem dJ6_bitCount_0f7a4_7 : decode cJ6_bitCount_0f7a4 7 = .ok (.iand, 1) := by decide +kernel
theorem dJ6_bitCount_0f7a4_8 : decode cJ6_bitCount_0f7a4 8 = .ok (.isub, 1) := by decide +kernel
theorem dJ6_bitCount_0f7a4_9 : decode cJ6_bitCount_0f7a4 9 = .ok (.istore_n 0, 1) := by decide +kernel
theorem dJ6_bitCount_0f7a4_10 : decode cJ6_bitCount_0f7a4 10 = .ok (.iload_n 0, 1) := by decide +kernel
theorem dJ6_bitCount_0f7a4_11 : decode cJ6_bitCount_0f7a4 11 = .ok (.ldc_w 266, 3) := by decide +kernel
theorem dJ6_bitCount_0f7a4_14 : decode cJ6_bitCount_0f7a4 14 = .ok (.iand, 1) := by decide +kernel
theorem dJ6_bitCount_0f7a4_15 : decode cJ6_bitCount_0f7a4 15 = .ok (.iload_n 0, 1) := by decide +kernel
theorem dJ6_bitCount_0f7a4_16 : decode cJ6_bitCount_0f7a4 16 = .ok (.iconst 2, 1) := by decide +kernel
theorem dJ6_bitCount_0f7a4_17 : decode cJ6_bitCount_0f7a4 17 = .ok (.iushr, 1) := by decide +kernel
theorem dJ6_bitCount_0f7a4_18 : decode cJ6_bitCount_0f7a4 18 = .ok (.ldc_w 266, 3) := by decide +kernel
theorem dJ6_bitCount_0f7a4_21 : decode cJ6_bitCount_0f7a4 21 = .ok (.iand, 1) := by decide +kernel
theorem dJ6_bitCount_0f7a4_22 : decode cJ6_bitCount_0f7a4 22 = .ok (.iadd, 1) := by decide +kernel
theorem dJ6_bitCount_0f7a4_23 : decode cJ6_bitCount_0f7a4 23 = .ok (.istore_n 0, 1) := by decide +kernel
theorem dJ6_bitCount_0f7a4_24 : decode cJ6_bitCount_0f7a4 24 = .ok (.iload_n 0, 1) := by decide +kernel
theorem dJ6_bitCount_0f7a4_25 : decode cJ6_bitCount_0f7a4 25 = .ok (.iload_n 0, 1) := by decide +kernel
theorem dJ6_bitCount_0f7a4_26 : decode cJ6_bitCount_0f7a4 26 = .ok (.iconst 4, 1) := by decide +kernel
theorem dJ6_bitCount_0f7a4_27 : decode cJ6_bitCount_0f7a4 27 = .ok (.iushr, 1) := by decide +kernel
theorem dJ6_bitCount_0f7a4_28 : decode cJ6_bitCount_0f7a4 28 = .ok (.iadd, 1) := by decide +kernel
theorem dJ6_bitCount_0f7a4_29 : decode cJ6_bitCount_0f7a4 29 = .ok (.ldc_w 267, 3) := by decide +kernel
theorem dJ6_bitCount_0f7a4_32 : decode cJ6_bitCount_0f7a4 32 = .ok (.iand, 1) := by decide +kernel
theorem dJ6_bitCount_0f7a4_33 : decode cJ6_bitCount_0f7a4 33 = .ok (.istore_n 0, 1) := by decide +kernel
theorem dJ6_bitCount_0f7a4_34 : decode cJ6_bitCount_0f7a4 34 = .ok (.iload_n 0, 1) := by decide +kernel
theorem dJ6_bitCount_0f7a4_35 : decode cJ6_bitCount_0f7a4 35 = .ok (.iload_n 0, 1) := by decide +kernel
theorem dJ6_bitCount_0f7a4_36 : decode cJ6_bitCount_0f7a4 36 = .ok (.bipush 8, 2) := by decide +kernel
theorem dJ6_bitCount_0f7a4_38 : decode cJ6_bitCount_0f7a4 38 = .ok (.iushr, 1) := by decide +kernel
theorem dJ6_bitCount_0f7a4_39 : decode cJ6_bitCount_0f7a4 39 = .ok (.iadd, 1) := by decide +kernel
theorem dJ6_bitCount_0f7a4_40 : decode cJ6_bitCount_0f7a4 40 = .ok (.istore_n 0, 1) := by decide +kernel
theorem dJ6_bitCount_0f7a4_41 : decode cJ6_bitCount_0f7a4 41 = .ok (.iload_n 0, 1) := by decide +kernel
theorem dJ6_bitCount_0f7a4_42 : decode cJ6_bitCount_0f7a4 42 = .ok (.iload_n 0, 1) := by decide +kernel
theorem dJ6_bitCount_0f7a4_43 : decode cJ6_bitCount_0f7a4 43 = .ok (.bipush 16, 2) := by decide +kernel
theorem dJ6_bitCount_0f7a4_45 : decode cJ6_bitCount_0f7a4 45 = .ok (.iushr, 1) := by decide +kernel
theorem dJ6_bitCount_0f7a4_46 : decode cJ6_bitCount_0f7a4 46 = .ok (.iadd, 1) := by decide +kernel
theorem dJ6_bitCount_0f7a4_47 : decode cJ6_bitCount_0f7a4 47 = .ok (.istore_n 0, 1) := by decide +kernel
theorem dJ6_bitCount_0f7a4_48 : decode cJ6_bitCount_0f7a4 48 = .ok (.iload_n 0, 1) := by decide +kernel
theorem dJ6_bitCount_0f7a4_49 : decode cJ6_bitCount_0f7a4 49 = .ok (.bipush 63, 2) := by decide +kernel
theorem dJ6_bitCount_0f7a4_51 : decode cJ6_bitCount_0f7a4 51 = .ok (.iand, 1) := by decide +kernel
theorem dJ6_bitCount_0f7a4_52 : decode cJ6_bitCount_0f7a4 52 = .ok (.ireturn, 1) := by decide +kernel
theorem dJ13_bitCount_95d88_0 : decode cJ13_bitCount_95d88 0 = .ok (.lload_n 0, 1) := by decide +kernel
theorem dJ13_bitCount_95d88_1 : decode cJ13_bitCount_95d88 1 = .ok (.lload_n 0, 1) := by decide +kernel
theorem dJ13_bitCount_95d88_2 : decode cJ13_bitCount_95d88 2 = .ok (.iconst 1, 1) := by decide +kernel
theorem dJ13_bitCount_95d88_3 : decode cJ13_bitCount_95d88 3 = .ok (.lushr, 1) := by decide +kernel
theorem dJ13_bitCount_95d88_4 : decode cJ13_bitCount_95d88 4 = .ok (.ldc2_w 314, 3) := by decide +kernel
theorem dJ13_bitCount_95d88_7 : decode cJ13_bitCount_95d88 7 = .ok (.land, 1) := by decide +kernel
theorem dJ13_bitCount_95d88_8 : decode cJ13_bitCount_95d88 8 = .ok (.lsub, 1) := by decide +kernel
theorem dJ13_bitCount_95d88_9 : decode cJ13_bitCount_95d88 9 = .ok (.lstore_n 0, 1) := by decide +kernel
theorem dJ13_bitCount_95d88_10 : decode cJ13_bitCount_95d88 10 = .ok (.lload_n 0, 1) := by decide +kernel
theorem dJ13_bitCount_95d88_11 : decode cJ13_bitCount_95d88 11 = .ok (.ldc2_w 316, 3) := by decide +kernel
theorem dJ13_bitCount_95d88_14 : decode cJ13_bitCount_95d88 14 = .ok (.land, 1) := by decide +kernel
theorem dJ13_bitCount_95d88_15 : decode cJ13_bitCount_95d88 15 = .ok (.lload_n 0, 1) := by decide +kernel
theorem dJ13_bitCount_95d88_16 : decode cJ13_bitCount_95d88 16 = .ok (.iconst 2, 1) := by decide +kernel
theorem dJ13_bitCount_95d88_17 : decode cJ13_bitCount_95d88 17 = .ok (.lushr, 1) := by decide +kernel
theorem dJ13_bitCount_95d88_18 : decode cJ13_bitCount_95d88 18 = .ok (.ldc2_w 316, 3) := by decide +kernel
theorem dJ13_bitCount_95d88_21 : decode cJ13_bitCount_95d88 21 = .ok (.land, 1) := by decide +kernel
theorem dJ13_bitCount_95d88_22 : decode cJ13_bitCount_95d88 22 = .ok (.ladd, 1) := by decide +kernel
theorem dJ13_bitCount_95d88_23 : decode cJ13_bitCount_95d88 23 = .ok (.lstore_n 0, 1) := by decide +kernel
theorem dJ13_bitCount_95d88_24 : decode cJ13_bitCount_95d88 24 = .ok (.lload_n 0, 1) := by decide +kernel
theorem dJ13_bitCount_95d88_25 : decode cJ13_bitCount_95d88 25 = .ok (.lload_n 0, 1) := by decide +kernel
theorem dJ13_bitCount_95d88_26 : decode cJ13_bitCount_95d88 26 = .ok (.iconst 4, 1) := by decide +kernel
theorem dJ13_bitCount_95d88_27 : decode cJ13_bitCount_95d88 27 = .ok (.lushr, 1) := by decide +kernel
theorem dJ13_bitCount_95d88_28 : decode cJ13_bitCount_95d88 28 = .ok (.ladd, 1) := by decide +kernel
theorem dJ13_bitCount_95d88_29 : decode cJ13_bitCount_95d88 29 = .ok (.ldc2_w 318, 3) := by decide +kernel
theorem dJ13_bitCount_95d88_32 : decode cJ13_bitCount_95d88 32 = .ok (.land, 1) := by decide +kernel
theorem dJ13_bitCount_95d88_33 : decode cJ13_bitCount_95d88 33 = .ok (.lstore_n 0, 1) := by decide +kernel
theorem dJ13_bitCount_95d88_34 : decode cJ13_bitCount_95d88 34 = .ok (.lload_n 0, 1) := by decide +kernel
theorem dJ13_bitCount_95d88_35 : decode cJ13_bitCount_95d88 35 = .ok (.lload_n 0, 1) := by decide +kernel
theorem dJ13_bitCount_95d88_36 : decode cJ13_bitCount_95d88 36 = .ok (.bipush 8, 2) := by decide +kernel
theorem dJ13_bitCount_95d88_38 : decode cJ13_bitCount_95d88 38 = .ok (.lushr, 1) := by decide +kernel
theorem dJ13_bitCount_95d88_39 : decode cJ13_bitCount_95d88 39 = .ok (.ladd, 1) := by decide +kernel
theorem dJ13_bitCount_95d88_40 : decode cJ13_bitCount_95d88 40 = .ok (.lstore_n 0, 1) := by decide +kernel
theorem dJ13_bitCount_95d88_41 : decode cJ13_bitCount_95d88 41 = .ok (.lload_n 0, 1) := by decide +kernel
theorem dJ13_bitCount_95d88_42 : decode cJ13_bitCount_95d88 42 = .ok (.lload_n 0, 1) := by decide +kernel
theorem dJ13_bitCount_95d88_43 : decode cJ13_bitCount_95d88 43 = .ok (.bipush 16, 2) := by decide +kernel
theorem dJ13_bitCount_95d88_45 : decode cJ13_bitCount_95d88 45 = .ok (.lushr, 1) := by decide +kernel
theorem dJ13_bitCount_95d88_46 : decode cJ13_bitCount_95d88 46 = .ok (.ladd, 1) := by decide +kernel
theorem dJ13_bitCount_95d88_47 : decode cJ13_bitCount_95d88 47 = .ok (.lstore_n 0, 1) := by decide +kernel
theorem dJ13_bitCount_95d88_48 : decode cJ13_bitCount_95d88 48 = .ok (.lload_n 0, 1) := by decide +kernel
theorem dJ13_bitCount_95d88_49 : decode cJ13_bitCount_95d88 49 = .ok (.lload_n 0, 1) := by decide +kernel
theorem dJ13_bitCount_95d88_50 : decode cJ13_bitCount_95d88 50 = .ok (.bipush 32, 2) := by decide +kernel
theorem dJ13_bitCount_95d88_52 : decode cJ13_bitCount_95d88 52 = .ok (.lushr, 1) := by decide +kernel
theorem dJ13_bitCount_95d88_53 : decode cJ13_bitCount_95d88 53 = .ok (.ladd, 1) := by decide +kernel
theorem dJ13_bitCount_95d88_54 : decode cJ13_bitCount_95d88 54 = .ok (.lstore_n 0, 1) := by decide +kernel
theorem dJ13_bitCount_95d88_55 : decode cJ13_bitCount_95d88 55 = .ok (.lload_n 0, 1) := by decide +kernel
theorem dJ13_bitCount_95d88_56 : decode cJ13_bitCount_95d88 56 = .ok (.l2i, 1) := by decide +kernel
theorem dJ13_bitCount_95d88_57 : decode cJ13_bitCount_95d88 57 = .ok (.bipush 127, 2) := by decide +kernel
theorem dJ13_bitCount_95d88_59 : decode cJ13_bitCount_95d88 59 = .ok (.iand, 1) := by decide +kernel
theorem dJ13_bitCount_95d88_60 : decode cJ13_bitCount_95d88 60 = .ok (.ireturn, 1) := by decide +kernel
theorem dJ9_max_7cf53_0 : decode cJ9_max_7cf53 0 = .ok (.iload_n 0, 1) := by decide +kernel
theorem dJ9_max_7cf53_1 : decode cJ9_max_7cf53 1 = .ok (.iload_n 1, 1) := by decide +kernel
theorem dJ9_max_7cf53_2 : decode cJ9_max_7cf53 2 = .ok (.if_icmp .lt 7, 3) := by decide +kernel
theorem dJ9_max_7cf53_5 : decode cJ9_max_7cf53 5 = .ok (.iload_n 0, 1) := by decide +kernel
theorem dJ9_max_7cf53_6 : decode cJ9_max_7cf53 6 = .ok (.goto 4, 3) := by decide +kernel
theorem dJ9_max_7cf53_9 : decode cJ9_max_7cf53 9 = .ok (.iload_n 1, 1) := by decide +kernel
theorem dJ9_max_7cf53_10 : decode cJ9_max_7cf53 10 = .ok (.ireturn, 1) := by decide +kernel
theorem dJ9_min_7cf53_0 : decode cJ9_min_7cf53 0 = .ok (.iload_n 0, 1) := by decide +kernel
theorem dJ9_min_7cf53_1 : decode cJ9_min_7cf53 1 = .ok (.iload_n 1, 1) := by decide +kernel
theorem dJ9_min_7cf53_2 : decode cJ9_min_7cf53 2 = .ok (.if_icmp .gt 7, 3) := by decide +kernel
theorem dJ9_min_7cf53_5 : decode cJ9_min_7cf53 5 = .ok (.iload_n 0, 1) := by decide +kernel
theorem dJ9_min_7cf53_6 : decode cJ9_min_7cf53 6 = .ok (.goto 4, 3) := by decide +kernel
theorem dJ9_min_7cf53_9 : decode cJ9_min_7cf53 9 = .ok (.iload_n 1, 1) := by decide +kernel
theorem dJ9_min_7cf53_10 : decode cJ9_min_7cf53 10 = .ok (.ireturn, 1) := by decide +kernel
theorem dL_cell_0 : decode cL_cell 0 = .ok (.iload_n 1, 1) := by decide +kernel
theorem dL_cell_1 : decode cL_cell 1 = .ok (.aload_n 0, 1) := by decide +kernel
theorem dL_cell_2 : decode cL_cell 2 = .ok (.arraylength, 1) := by decide +kernel
theorem dL_cell_3 : decode cL_cell 3 = .ok (.if_icmp .ge 9, 3) := by decide +kernel
theorem dL_cell_6 : decode cL_cell 6 = .ok (.aload_n 0, 1) := by decide +kernel
theorem dL_cell_7 : decode cL_cell 7 = .ok (.iload_n 1, 1) := by decide +kernel
theorem dL_cell_8 : decode cL_cell 8 = .ok (.iaload, 1) := by decide +kernel
theorem dL_cell_9 : decode cL_cell 9 = .ok (.goto 15, 3) := by decide +kernel
theorem dL_cell_12 : decode cL_cell 12 = .ok (.ldc 7, 2) := by decide +kernel
theorem dL_cell_14 : decode cL_cell 14 = .ok (.iload_n 1, 1) := by decide +kernel
theorem dL_cell_15 : decode cL_cell 15 = .ok (.sipush 4096, 3) := by decide +kernel
theorem dL_cell_18 : decode cL_cell 18 = .ok (.irem, 1) := by decide +kernel
theorem dL_cell_19 : decode cL_cell 19 = .ok (.imul, 1) := by decide +kernel
theorem dL_cell_20 : decode cL_cell 20 = .ok (.sipush 257, 3) := by decide +kernel
theorem dL_cell_23 : decode cL_cell 23 = .ok (.iadd, 1) := by decide +kernel
theorem dL_cell_24 : decode cL_cell 24 = .ok (.ldc 8, 2) := by decide +kernel
theorem dL_cell_26 : decode cL_cell 26 = .ok (.iand, 1) := by decide +kernel
theorem dL_cell_27 : decode cL_cell 27 = .ok (.ireturn, 1) := by decide +kernel
set_option maxRecDepth 20000 in
theorem ggL_acts_X9_drop : GoodIn wsL_acts wsX9_drop := goodIn_r _ [5, 6, 7, 8, 9, 10, 11, 12, 13, 14, 15, 16, 17, 18, 19, 20, 21, 22, 23, 24, 25, 26, 27, 28, 29, 30, 31, 32, 33, 4, 34, 35, 36, 37, 38, 39, 40, 41, 42, 43, 44, 45, 46, 47, 48, 49, 50, 51, 52, 53, 54, 55, 56, 57, 58, 59, 116, 117, 118, 119, 120, 121, 122, 123, 124, 125, 126, 127] (by decide +kernel) (by decide +kernel)
set_option maxRecDepth 20000 in
theorem gL_acts_X9_drop : GoodIn wsL_acts (wsV RL 9 RX9 yX9_drop wsX9_drop) := goodIn_app (goodIn_of _ (by decide +kernel)) ggL_acts_X9_drop
set_option maxRecDepth 20000 in
theorem ggL_acts_X9_change : GoodIn wsL_acts wsX9_change := goodIn_r _ [63, 6, 7, 64, 65, 66, 11, 67, 13, 68, 69, 4, 70, 71, 23, 24, 25, 26, 14, 15, 16, 17, 18, 19, 20, 21, 22, 27, 28, 29, 30, 72, 8, 9, 10, 12, 31, 32, 33, 34, 35, 36, 37, 38, 39, 40, 41, 42, 43, 44, 45, 46, 47, 48, 49, 50, 51, 52, 53, 54, 55, 56, 57, 58, 59, 116, 117, 118, 119, 120, 121, 122, 123, 124, 125, 126, 127] (by decide +kernel) (by decide +kernel)
set_option maxRecDepth 20000 in
theorem gL_acts_X9_change : GoodIn wsL_acts (wsV RL 15 RX9 yX9_change wsX9_change) := goodIn_app (goodIn_of _ (by decide +kernel)) ggL_acts_X9_change
set_option maxRecDepth 20000 in
theorem ggL_acts_X9_reverse : GoodIn wsL_acts wsX9_reverse := goodIn_r _ [76, 7, 6, 14, 15, 16, 11, 17, 13, 8, 9, 10, 12, 71, 23, 24, 25, 26, 72, 28, 29, 30, 77, 78, 79, 80, 57, 22, 31, 32, 33, 4, 34, 35, 36, 37, 38, 39, 40, 41, 42, 43, 44, 45, 46, 47, 48, 49, 50, 51, 52, 53, 54, 55, 56, 58, 19, 20, 21, 27, 59, 116, 117, 118, 119, 120, 121, 122, 123, 124, 125, 126, 127] (by decide +kernel) (by decide +kernel)
set_option maxRecDepth 20000 in
theorem gL_acts_X9_reverse : GoodIn wsL_acts (wsV RL 19 RX9 yX9_reverse wsX9_reverse) := goodIn_app (goodIn_of _ (by decide +kernel)) ggL_acts_X9_reverse
set_option maxRecDepth 20000 in
theorem ggL_acts_X9_turn : GoodIn wsL_acts wsX9_turn := goodIn_r _ [84, 6, 7, 8, 9, 10, 11, 12, 13, 14, 15, 16, 17, 18, 19, 20, 21, 22, 23, 24, 25, 26, 27, 28, 29, 30, 77, 78, 79, 80, 57, 31, 32, 33, 4, 34, 35, 36, 37, 38, 39, 40, 41, 42, 43, 44, 45, 46, 47, 48, 49, 50, 51, 52, 53, 54, 55, 56, 58, 59, 71, 116, 117, 118, 119, 120, 121, 122, 123, 124, 125, 126, 127] (by decide +kernel) (by decide +kernel)
set_option maxRecDepth 20000 in
theorem gL_acts_X9_turn : GoodIn wsL_acts (wsV RL 23 RX9 yX9_turn wsX9_turn) := goodIn_app (goodIn_of _ (by decide +kernel)) ggL_acts_X9_turn
set_option maxRecDepth 20000 in
theorem ggL_acts_X9_fold : GoodIn wsL_acts wsX9_fold := goodIn_r _ [88, 6, 7, 89, 90, 91, 11, 92, 13, 8, 9, 10, 12, 59, 53, 54, 55, 56, 15, 16, 17, 57, 58, 19, 20, 21, 22, 23, 24, 25, 26, 27, 28, 29, 30, 18, 31, 32, 33, 4, 34, 35, 36, 37, 38, 39, 40, 41, 42, 43, 44, 45, 46, 47, 48, 49, 50, 51, 52, 116, 117, 118, 119, 120, 121, 122, 123, 124, 125, 126, 127] (by decide +kernel) (by decide +kernel)
set_option maxRecDepth 20000 in
theorem gL_acts_X9_fold : GoodIn wsL_acts (wsV RL 26 RX9 yX9_fold wsX9_fold) := goodIn_app (goodIn_of _ (by decide +kernel)) ggL_acts_X9_fold
set_option maxRecDepth 20000 in
theorem ggL_acts_X9_add : GoodIn wsL_acts wsX9_add := goodIn_r _ [96, 6, 7, 68, 69, 4, 70, 97, 98, 99, 11, 100, 13, 101, 102, 103, 104, 59, 53, 54, 55, 56, 15, 16, 17, 57, 9, 10, 12, 58, 19, 20, 21, 22, 23, 24, 25, 26, 27, 28, 29, 30, 72, 31, 32, 33, 34, 35, 36, 37, 38, 39, 40, 41, 42, 43, 44, 45, 46, 47, 48, 49, 50, 51, 52, 8, 105, 106, 107, 108, 109, 110, 111, 112, 113, 114, 115, 116, 117, 118, 119, 120, 121, 122, 123, 124, 125, 126, 127] (by decide +kernel) (by decide +kernel)
set_option maxRecDepth 20000 in
theorem gL_acts_X9_add : GoodIn wsL_acts (wsV RL 29 RX9 yX9_add wsX9_add) := goodIn_app (goodIn_of _ (by decide +kernel)) ggL_acts_X9_add
theorem dL_acts_0 : decode cL_acts 0 = .ok (.iload_n 1, 1) := by decide +kernel
theorem dL_acts_1 : decode cL_acts 1 = .ok (.bipush 16, 2) := by decide +kernel
theorem dL_acts_3 : decode cL_acts 3 = .ok (.idiv, 1) := by decide +kernel
theorem dL_acts_4 : decode cL_acts 4 = .ok (.istore_n 2, 1) := by decide +kernel
theorem dL_acts_5 : decode cL_acts 5 = .ok (.iload_n 1, 1) := by decide +kernel
theorem dL_acts_6 : decode cL_acts 6 = .ok (.bipush 16, 2) := by decide +kernel
theorem dL_acts_8 : decode cL_acts 8 = .ok (.irem, 1) := by decide +kernel
theorem dL_acts_9 : decode cL_acts 9 = .ok (.tableswitch 105 0 6 #[43, 53, 68, 73, 83, 83, 83], 43) := by decide +kernel
theorem dL_acts_52 : decode cL_acts 52 = .ok (.aload_n 0, 1) := by decide +kernel
theorem dL_acts_53 : decode cL_acts 53 = .ok (.iconst 1, 1) := by decide +kernel
theorem dL_acts_54 : decode cL_acts 54 = .ok (.iload_n 2, 1) := by decide +kernel
theorem dL_acts_55 : decode cL_acts 55 = .ok (.iconst 4, 1) := by decide +kernel
theorem dL_acts_56 : decode cL_acts 56 = .ok (.irem, 1) := by decide +kernel
theorem dL_acts_57 : decode cL_acts 57 = .ok (.iadd, 1) := by decide +kernel
theorem dL_acts_58 : decode cL_acts 58 = .ok (.invokevirtual 9, 3) := by decide +kernel
theorem dL_acts_61 : decode cL_acts 61 = .ok (.ireturn, 1) := by decide +kernel
theorem dL_acts_62 : decode cL_acts 62 = .ok (.aload_n 0, 1) := by decide +kernel
theorem dL_acts_63 : decode cL_acts 63 = .ok (.iload_n 2, 1) := by decide +kernel
theorem dL_acts_64 : decode cL_acts 64 = .ok (.bipush 20, 2) := by decide +kernel
theorem dL_acts_66 : decode cL_acts 66 = .ok (.irem, 1) := by decide +kernel
theorem dL_acts_67 : decode cL_acts 67 = .ok (.iload_n 2, 1) := by decide +kernel
theorem dL_acts_68 : decode cL_acts 68 = .ok (.bipush 32, 2) := by decide +kernel
theorem dL_acts_70 : decode cL_acts 70 = .ok (.idiv, 1) := by decide +kernel
theorem dL_acts_71 : decode cL_acts 71 = .ok (.iconst 3, 1) := by decide +kernel
theorem dL_acts_72 : decode cL_acts 72 = .ok (.irem, 1) := by decide +kernel
theorem dL_acts_73 : decode cL_acts 73 = .ok (.invokevirtual 15, 3) := by decide +kernel
theorem dL_acts_76 : decode cL_acts 76 = .ok (.ireturn, 1) := by decide +kernel
theorem dL_acts_77 : decode cL_acts 77 = .ok (.aload_n 0, 1) := by decide +kernel
theorem dL_acts_78 : decode cL_acts 78 = .ok (.invokevirtual 19, 3) := by decide +kernel
theorem dL_acts_81 : decode cL_acts 81 = .ok (.ireturn, 1) := by decide +kernel
theorem dL_acts_82 : decode cL_acts 82 = .ok (.aload_n 0, 1) := by decide +kernel
theorem dL_acts_83 : decode cL_acts 83 = .ok (.iconst 1, 1) := by decide +kernel
theorem dL_acts_84 : decode cL_acts 84 = .ok (.iload_n 2, 1) := by decide +kernel
theorem dL_acts_85 : decode cL_acts 85 = .ok (.iconst 5, 1) := by decide +kernel
theorem dL_acts_86 : decode cL_acts 86 = .ok (.irem, 1) := by decide +kernel
theorem dL_acts_87 : decode cL_acts 87 = .ok (.iadd, 1) := by decide +kernel
theorem dL_acts_88 : decode cL_acts 88 = .ok (.invokevirtual 23, 3) := by decide +kernel
theorem dL_acts_91 : decode cL_acts 91 = .ok (.ireturn, 1) := by decide +kernel
theorem dL_acts_92 : decode cL_acts 92 = .ok (.aload_n 0, 1) := by decide +kernel
theorem dL_acts_93 : decode cL_acts 93 = .ok (.iload_n 2, 1) := by decide +kernel
theorem dL_acts_94 : decode cL_acts 94 = .ok (.bipush 8, 2) := by decide +kernel
theorem dL_acts_96 : decode cL_acts 96 = .ok (.irem, 1) := by decide +kernel
theorem dL_acts_97 : decode cL_acts 97 = .ok (.iload_n 2, 1) := by decide +kernel
theorem dL_acts_98 : decode cL_acts 98 = .ok (.bipush 8, 2) := by decide +kernel
theorem dL_acts_100 : decode cL_acts 100 = .ok (.irem, 1) := by decide +kernel
theorem dL_acts_101 : decode cL_acts 101 = .ok (.iconst 1, 1) := by decide +kernel
theorem dL_acts_102 : decode cL_acts 102 = .ok (.iadd, 1) := by decide +kernel
theorem dL_acts_103 : decode cL_acts 103 = .ok (.iload_n 2, 1) := by decide +kernel
theorem dL_acts_104 : decode cL_acts 104 = .ok (.bipush 8, 2) := by decide +kernel
theorem dL_acts_106 : decode cL_acts 106 = .ok (.idiv, 1) := by decide +kernel
theorem dL_acts_107 : decode cL_acts 107 = .ok (.iconst 4, 1) := by decide +kernel
theorem dL_acts_108 : decode cL_acts 108 = .ok (.irem, 1) := by decide +kernel
theorem dL_acts_109 : decode cL_acts 109 = .ok (.iadd, 1) := by decide +kernel
theorem dL_acts_110 : decode cL_acts 110 = .ok (.invokevirtual 26, 3) := by decide +kernel
theorem dL_acts_113 : decode cL_acts 113 = .ok (.ireturn, 1) := by decide +kernel
theorem dL_acts_114 : decode cL_acts 114 = .ok (.aload_n 0, 1) := by decide +kernel
theorem dL_acts_115 : decode cL_acts 115 = .ok (.iload_n 2, 1) := by decide +kernel
theorem dL_acts_116 : decode cL_acts 116 = .ok (.bipush 16, 2) := by decide +kernel
theorem dL_acts_118 : decode cL_acts 118 = .ok (.irem, 1) := by decide +kernel
theorem dL_acts_119 : decode cL_acts 119 = .ok (.ifCond .ne 7, 3) := by decide +kernel
theorem dL_acts_122 : decode cL_acts 122 = .ok (.iconst 2, 1) := by decide +kernel
theorem dL_acts_123 : decode cL_acts 123 = .ok (.goto 6, 3) := by decide +kernel
theorem dL_acts_126 : decode cL_acts 126 = .ok (.iload_n 2, 1) := by decide +kernel
theorem dL_acts_127 : decode cL_acts 127 = .ok (.iconst 2, 1) := by decide +kernel
theorem dL_acts_128 : decode cL_acts 128 = .ok (.irem, 1) := by decide +kernel
theorem dL_acts_129 : decode cL_acts 129 = .ok (.invokevirtual 29, 3) := by decide +kernel
theorem dL_acts_132 : decode cL_acts 132 = .ok (.ireturn, 1) := by decide +kernel
set_option maxRecDepth 20000 in
theorem ggL_same_X9_at : GoodIn wsL_same wsX9_at := goodIn_r _ [5, 6, 7, 8, 9, 10, 11, 12, 13, 14, 15, 16, 17, 18, 19, 20, 21, 22, 23, 24, 25, 26, 27, 28, 29, 30, 31, 32, 33, 34, 35, 36, 37, 38, 39, 40, 41, 42, 43, 44, 45, 46, 47, 48, 49, 50, 51, 52, 53, 54, 55, 56, 57, 58, 59, 60, 61, 62, 63, 64, 65, 66, 67, 68, 69, 70, 71, 72, 73] (by decide +kernel) (by decide +kernel)
set_option maxRecDepth 20000 in
theorem gL_same_X9_at : GoodIn wsL_same (wsV RL 32 RX9 yX9_at wsX9_at) := goodIn_app (goodIn_of _ (by decide +kernel)) ggL_same_X9_at
theorem dL_same_0 : decode cL_same 0 = .ok (.iconst 1, 1) := by decide +kernel
theorem dL_same_1 : decode cL_same 1 = .ok (.istore 4, 2) := by decide +kernel
theorem dL_same_3 : decode cL_same 3 = .ok (.iconst 0, 1) := by decide +kernel
theorem dL_same_4 : decode cL_same 4 = .ok (.istore 5, 2) := by decide +kernel
theorem dL_same_6 : decode cL_same 6 = .ok (.iload 5, 2) := by decide +kernel
theorem dL_same_8 : decode cL_same 8 = .ok (.iload_n 3, 1) := by decide +kernel
theorem dL_same_9 : decode cL_same 9 = .ok (.if_icmp .ge 42, 3) := by decide +kernel
theorem dL_same_12 : decode cL_same 12 = .ok (.iload 4, 2) := by decide +kernel
theorem dL_same_14 : decode cL_same 14 = .ok (.ifCond .eq 37, 3) := by decide +kernel
theorem dL_same_17 : decode cL_same 17 = .ok (.aload_n 0, 1) := by decide +kernel
theorem dL_same_18 : decode cL_same 18 = .ok (.iload_n 1, 1) := by decide +kernel
theorem dL_same_19 : decode cL_same 19 = .ok (.iload 5, 2) := by decide +kernel
theorem dL_same_21 : decode cL_same 21 = .ok (.iadd, 1) := by decide +kernel
theorem dL_same_22 : decode cL_same 22 = .ok (.iconst 0, 1) := by decide +kernel
theorem dL_same_23 : decode cL_same 23 = .ok (.invokevirtual 32, 3) := by decide +kernel
theorem dL_same_26 : decode cL_same 26 = .ok (.aload_n 0, 1) := by decide +kernel
theorem dL_same_27 : decode cL_same 27 = .ok (.iload_n 2, 1) := by decide +kernel
theorem dL_same_28 : decode cL_same 28 = .ok (.iload 5, 2) := by decide +kernel
theorem dL_same_30 : decode cL_same 30 = .ok (.iadd, 1) := by decide +kernel
theorem dL_same_31 : decode cL_same 31 = .ok (.iconst 0, 1) := by decide +kernel
theorem dL_same_32 : decode cL_same 32 = .ok (.invokevirtual 32, 3) := by decide +kernel
theorem dL_same_35 : decode cL_same 35 = .ok (.if_icmp .ne 7, 3) := by decide +kernel
theorem dL_same_38 : decode cL_same 38 = .ok (.iconst 1, 1) := by decide +kernel
theorem dL_same_39 : decode cL_same 39 = .ok (.goto 4, 3) := by decide +kernel
theorem dL_same_42 : decode cL_same 42 = .ok (.iconst 0, 1) := by decide +kernel
theorem dL_same_43 : decode cL_same 43 = .ok (.istore 4, 2) := by decide +kernel
theorem dL_same_45 : decode cL_same 45 = .ok (.iinc 5 1, 3) := by decide +kernel
theorem dL_same_48 : decode cL_same 48 = .ok (.goto (-42), 3) := by decide +kernel
theorem dL_same_51 : decode cL_same 51 = .ok (.iload 4, 2) := by decide +kernel
theorem dL_same_53 : decode cL_same 53 = .ok (.ireturn, 1) := by decide +kernel
set_option maxRecDepth 20000 in
theorem ggL_factors_X9_count : GoodIn wsL_factors wsX9_count := goodIn_r _ [5, 6, 7, 8, 9, 10, 11, 12, 13, 14, 15, 16, 17, 18, 19, 20, 21, 22, 23, 24, 25, 26, 27, 28, 29, 30, 31, 32, 33, 34, 35, 36, 37, 38, 39, 40, 41, 42, 43, 44, 45, 46, 47, 48, 49, 50, 51, 52, 53, 54, 55, 56, 57, 58, 59, 60, 61, 62, 63, 64, 65, 66, 67, 68, 69, 70, 71, 72, 73, 74, 75, 76, 77, 78, 79, 80, 81, 82, 83, 84, 85, 86, 87, 88, 89, 90, 91, 92, 93, 94, 95, 96, 97, 98, 99, 100, 101, 102, 103, 104, 105, 106, 107, 108, 109, 110, 111, 112, 113, 114, 115, 116, 117, 118, 119, 120, 121, 122, 123, 124, 125, 187, 188, 189, 190, 191, 192, 193, 194, 195, 196, 197, 198, 199, 200] (by decide +kernel) (by decide +kernel)
set_option maxRecDepth 20000 in
theorem gL_factors_X9_count : GoodIn wsL_factors (wsV RL 35 RX9 yX9_count wsX9_count) := goodIn_app (goodIn_of _ (by decide +kernel)) ggL_factors_X9_count
set_option maxRecDepth 20000 in
theorem ggL_factors_X9_factor : GoodIn wsL_factors wsX9_factor := goodIn_r _ [129, 6, 130, 131, 132, 12, 133, 14, 134, 135, 33, 136, 55, 10, 11, 13, 45, 46, 47, 48, 49, 50, 43, 51, 19, 20, 21, 22, 23, 137, 138, 139, 140, 141, 142, 143, 144, 145, 146, 147, 148, 149, 150, 151, 152, 41, 42, 44, 153, 104, 93, 94, 95, 96, 97, 98, 99, 100, 101, 102, 103, 154, 155, 156, 157, 158, 159, 187, 188, 189, 190, 191, 192, 193, 194, 195] (by decide +kernel) (by decide +kernel)
set_option maxRecDepth 20000 in
theorem gL_factors_X9_factor : GoodIn wsL_factors (wsV RL 38 RX9 yX9_factor wsX9_factor) := goodIn_app (goodIn_of _ (by decide +kernel)) ggL_factors_X9_factor
set_option maxRecDepth 20000 in
theorem ggL_factors_L_same : GoodIn wsL_factors wsL_same := goodIn_r _ [163, 164, 165, 166, 4, 167, 6, 168, 169, 170, 12, 171, 14, 172, 20, 21, 22, 23, 173, 174, 175, 176, 177, 10, 11, 13, 178, 179, 180, 181, 78, 79, 80, 81, 42, 43, 44, 19, 182, 183, 184, 84, 185, 86, 87, 88, 89, 90, 91, 92, 93, 94, 95, 96, 97, 98, 99, 186, 72, 68, 73, 74, 75, 76, 77, 187, 188, 189, 190, 191, 192, 193, 194, 195] (by decide +kernel) (by decide +kernel)
set_option maxRecDepth 20000 in
theorem gL_factors_L_same : GoodIn wsL_factors (va_wsS RL 42 yL_same wsL_same) := goodIn_app (goodIn_of _ (by decide +kernel)) ggL_factors_L_same
theorem dL_factors_0 : decode cL_factors 0 = .ok (.aload_n 0, 1) := by decide +kernel
theorem dL_factors_1 : decode cL_factors 1 = .ok (.iconst 0, 1) := by decide +kernel
theorem dL_factors_2 : decode cL_factors 2 = .ok (.invokevirtual 35, 3) := by decide +kernel
theorem dL_factors_5 : decode cL_factors 5 = .ok (.istore_n 2, 1) := by decide +kernel
theorem dL_factors_6 : decode cL_factors 6 = .ok (.aload_n 0, 1) := by decide +kernel
theorem dL_factors_7 : decode cL_factors 7 = .ok (.iconst 0, 1) := by decide +kernel
theorem dL_factors_8 : decode cL_factors 8 = .ok (.iload_n 2, 1) := by decide +kernel
theorem dL_factors_9 : decode cL_factors 9 = .ok (.iconst 1, 1) := by decide +kernel
theorem dL_factors_10 : decode cL_factors 10 = .ok (.iadd, 1) := by decide +kernel
theorem dL_factors_11 : decode cL_factors 11 = .ok (.iconst 0, 1) := by decide +kernel
theorem dL_factors_12 : decode cL_factors 12 = .ok (.invokevirtual 38, 3) := by decide +kernel
theorem dL_factors_15 : decode cL_factors 15 = .ok (.iconst (-1), 1) := by decide +kernel
theorem dL_factors_16 : decode cL_factors 16 = .ok (.if_icmp .ne 18, 3) := by decide +kernel
theorem dL_factors_19 : decode cL_factors 19 = .ok (.aload_n 0, 1) := by decide +kernel
theorem dL_factors_20 : decode cL_factors 20 = .ok (.iconst 0, 1) := by decide +kernel
theorem dL_factors_21 : decode cL_factors 21 = .ok (.iconst 0, 1) := by decide +kernel
theorem dL_factors_22 : decode cL_factors 22 = .ok (.iconst 0, 1) := by decide +kernel
theorem dL_factors_23 : decode cL_factors 23 = .ok (.invokevirtual 38, 3) := by decide +kernel
theorem dL_factors_26 : decode cL_factors 26 = .ok (.iconst (-1), 1) := by decide +kernel
theorem dL_factors_27 : decode cL_factors 27 = .ok (.if_icmp .ne 7, 3) := by decide +kernel
theorem dL_factors_30 : decode cL_factors 30 = .ok (.iconst 1, 1) := by decide +kernel
theorem dL_factors_31 : decode cL_factors 31 = .ok (.goto 4, 3) := by decide +kernel
theorem dL_factors_34 : decode cL_factors 34 = .ok (.iconst 0, 1) := by decide +kernel
theorem dL_factors_35 : decode cL_factors 35 = .ok (.istore_n 3, 1) := by decide +kernel
theorem dL_factors_36 : decode cL_factors 36 = .ok (.iconst 0, 1) := by decide +kernel
theorem dL_factors_37 : decode cL_factors 37 = .ok (.istore 4, 2) := by decide +kernel
theorem dL_factors_39 : decode cL_factors 39 = .ok (.iload 4, 2) := by decide +kernel
theorem dL_factors_41 : decode cL_factors 41 = .ok (.bipush 6, 2) := by decide +kernel
theorem dL_factors_43 : decode cL_factors 43 = .ok (.if_icmp .ge 427, 3) := by decide +kernel
theorem dL_factors_46 : decode cL_factors 46 = .ok (.iload_n 2, 1) := by decide +kernel
theorem dL_factors_47 : decode cL_factors 47 = .ok (.ifCond .le 423, 3) := by decide +kernel
theorem dL_factors_50 : decode cL_factors 50 = .ok (.iload_n 3, 1) := by decide +kernel
theorem dL_factors_51 : decode cL_factors 51 = .ok (.ifCond .eq 419, 3) := by decide +kernel
theorem dL_factors_54 : decode cL_factors 54 = .ok (.iload_n 1, 1) := by decide +kernel
theorem dL_factors_55 : decode cL_factors 55 = .ok (.iconst 1, 1) := by decide +kernel
theorem dL_factors_56 : decode cL_factors 56 = .ok (.bipush 7, 2) := by decide +kernel
theorem dL_factors_58 : decode cL_factors 58 = .ok (.iload 4, 2) := by decide +kernel
theorem dL_factors_60 : decode cL_factors 60 = .ok (.imul, 1) := by decide +kernel
theorem dL_factors_61 : decode cL_factors 61 = .ok (.iadd, 1) := by decide +kernel
theorem dL_factors_62 : decode cL_factors 62 = .ok (.idiv, 1) := by decide +kernel
theorem dL_factors_63 : decode cL_factors 63 = .ok (.iload_n 2, 1) := by decide +kernel
theorem dL_factors_64 : decode cL_factors 64 = .ok (.irem, 1) := by decide +kernel
theorem dL_factors_65 : decode cL_factors 65 = .ok (.istore 5, 2) := by decide +kernel
theorem dL_factors_67 : decode cL_factors 67 = .ok (.iload 5, 2) := by decide +kernel
theorem dL_factors_69 : decode cL_factors 69 = .ok (.iconst 1, 1) := by decide +kernel
theorem dL_factors_70 : decode cL_factors 70 = .ok (.iadd, 1) := by decide +kernel
theorem dL_factors_71 : decode cL_factors 71 = .ok (.iload_n 1, 1) := by decide +kernel
theorem dL_factors_72 : decode cL_factors 72 = .ok (.iconst 3, 1) := by decide +kernel
theorem dL_factors_73 : decode cL_factors 73 = .ok (.iconst 5, 1) := by decide +kernel
theorem dL_factors_74 : decode cL_factors 74 = .ok (.iload 4, 2) := by decide +kernel
theorem dL_factors_76 : decode cL_factors 76 = .ok (.imul, 1) := by decide +kernel
theorem dL_factors_77 : decode cL_factors 77 = .ok (.iadd, 1) := by decide +kernel
theorem dL_factors_78 : decode cL_factors 78 = .ok (.idiv, 1) := by decide +kernel
theorem dL_factors_79 : decode cL_factors 79 = .ok (.iload_n 2, 1) := by decide +kernel
theorem dL_factors_80 : decode cL_factors 80 = .ok (.iload 5, 2) := by decide +kernel
theorem dL_factors_82 : decode cL_factors 82 = .ok (.isub, 1) := by decide +kernel
theorem dL_factors_83 : decode cL_factors 83 = .ok (.irem, 1) := by decide +kernel
theorem dL_factors_84 : decode cL_factors 84 = .ok (.iadd, 1) := by decide +kernel
theorem dL_factors_85 : decode cL_factors 85 = .ok (.istore 6, 2) := by decide +kernel
theorem dL_factors_87 : decode cL_factors 87 = .ok (.iload 6, 2) := by decide +kernel
theorem dL_factors_89 : decode cL_factors 89 = .ok (.iload 5, 2) := by decide +kernel
theorem dL_factors_91 : decode cL_factors 91 = .ok (.isub, 1) := by decide +kernel
theorem dL_factors_92 : decode cL_factors 92 = .ok (.istore 7, 2) := by decide +kernel
theorem dL_factors_94 : decode cL_factors 94 = .ok (.aload_n 0, 1) := by decide +kernel
theorem dL_factors_95 : decode cL_factors 95 = .ok (.iload 5, 2) := by decide +kernel
theorem dL_factors_97 : decode cL_factors 97 = .ok (.iload 6, 2) := by decide +kernel
theorem dL_factors_99 : decode cL_factors 99 = .ok (.iconst 0, 1) := by decide +kernel
theorem dL_factors_100 : decode cL_factors 100 = .ok (.invokevirtual 38, 3) := by decide +kernel
theorem dL_factors_103 : decode cL_factors 103 = .ok (.istore 8, 2) := by decide +kernel
theorem dL_factors_105 : decode cL_factors 105 = .ok (.aload_n 0, 1) := by decide +kernel
theorem dL_factors_106 : decode cL_factors 106 = .ok (.iload 5, 2) := by decide +kernel
theorem dL_factors_108 : decode cL_factors 108 = .ok (.iload 6, 2) := by decide +kernel
theorem dL_factors_110 : decode cL_factors 110 = .ok (.iconst 1, 1) := by decide +kernel
theorem dL_factors_111 : decode cL_factors 111 = .ok (.invokevirtual 38, 3) := by decide +kernel
theorem dL_factors_114 : decode cL_factors 114 = .ok (.istore 9, 2) := by decide +kernel
theorem dL_factors_116 : decode cL_factors 116 = .ok (.aload_n 0, 1) := by decide +kernel
theorem dL_factors_117 : decode cL_factors 117 = .ok (.iload 5, 2) := by decide +kernel
theorem dL_factors_119 : decode cL_factors 119 = .ok (.iload 6, 2) := by decide +kernel
theorem dL_factors_121 : decode cL_factors 121 = .ok (.iconst 2, 1) := by decide +kernel
theorem dL_factors_122 : decode cL_factors 122 = .ok (.invokevirtual 38, 3) := by decide +kernel
theorem dL_factors_125 : decode cL_factors 125 = .ok (.istore 10, 2) := by decide +kernel
theorem dL_factors_127 : decode cL_factors 127 = .ok (.aload_n 0, 1) := by decide +kernel
theorem dL_factors_128 : decode cL_factors 128 = .ok (.iload 5, 2) := by decide +kernel
theorem dL_factors_130 : decode cL_factors 130 = .ok (.iload 6, 2) := by decide +kernel
theorem dL_factors_132 : decode cL_factors 132 = .ok (.bipush 6, 2) := by decide +kernel
theorem dL_factors_134 : decode cL_factors 134 = .ok (.invokevirtual 38, 3) := by decide +kernel
theorem dL_factors_137 : decode cL_factors 137 = .ok (.istore 11, 2) := by decide +kernel
theorem dL_factors_139 : decode cL_factors 139 = .ok (.aload_n 0, 1) := by decide +kernel
theorem dL_factors_140 : decode cL_factors 140 = .ok (.iload 5, 2) := by decide +kernel
theorem dL_factors_142 : decode cL_factors 142 = .ok (.iload 6, 2) := by decide +kernel
theorem dL_factors_144 : decode cL_factors 144 = .ok (.bipush 7, 2) := by decide +kernel
theorem dL_factors_146 : decode cL_factors 146 = .ok (.invokevirtual 38, 3) := by decide +kernel
theorem dL_factors_149 : decode cL_factors 149 = .ok (.istore 12, 2) := by decide +kernel
theorem dL_factors_151 : decode cL_factors 151 = .ok (.aload_n 0, 1) := by decide +kernel
theorem dL_factors_152 : decode cL_factors 152 = .ok (.iload 5, 2) := by decide +kernel
theorem dL_factors_154 : decode cL_factors 154 = .ok (.iload 6, 2) := by decide +kernel
theorem dL_factors_156 : decode cL_factors 156 = .ok (.iconst 3, 1) := by decide +kernel
theorem dL_factors_157 : decode cL_factors 157 = .ok (.invokevirtual 38, 3) := by decide +kernel
theorem dL_factors_160 : decode cL_factors 160 = .ok (.istore 13, 2) := by decide +kernel
theorem dL_factors_162 : decode cL_factors 162 = .ok (.aload_n 0, 1) := by decide +kernel
theorem dL_factors_163 : decode cL_factors 163 = .ok (.iload 5, 2) := by decide +kernel
theorem dL_factors_165 : decode cL_factors 165 = .ok (.iload 6, 2) := by decide +kernel
theorem dL_factors_167 : decode cL_factors 167 = .ok (.iconst 4, 1) := by decide +kernel
theorem dL_factors_168 : decode cL_factors 168 = .ok (.invokevirtual 38, 3) := by decide +kernel
theorem dL_factors_171 : decode cL_factors 171 = .ok (.istore 14, 2) := by decide +kernel
theorem dL_factors_173 : decode cL_factors 173 = .ok (.iload 8, 2) := by decide +kernel
theorem dL_factors_175 : decode cL_factors 175 = .ok (.ifCond .le 287, 3) := by decide +kernel
theorem dL_factors_178 : decode cL_factors 178 = .ok (.iload 9, 2) := by decide +kernel
theorem dL_factors_180 : decode cL_factors 180 = .ok (.iload 6, 2) := by decide +kernel
theorem dL_factors_182 : decode cL_factors 182 = .ok (.if_icmp .gt 280, 3) := by decide +kernel
theorem dL_factors_185 : decode cL_factors 185 = .ok (.iload 10, 2) := by decide +kernel
theorem dL_factors_187 : decode cL_factors 187 = .ok (.iload 6, 2) := by decide +kernel
theorem dL_factors_189 : decode cL_factors 189 = .ok (.if_icmp .lt 273, 3) := by decide +kernel
theorem dL_factors_192 : decode cL_factors 192 = .ok (.iload 8, 2) := by decide +kernel
theorem dL_factors_194 : decode cL_factors 194 = .ok (.iconst 1, 1) := by decide +kernel
theorem dL_factors_195 : decode cL_factors 195 = .ok (.if_icmp .ne 7, 3) := by decide +kernel
theorem dL_factors_198 : decode cL_factors 198 = .ok (.iconst 1, 1) := by decide +kernel
theorem dL_factors_199 : decode cL_factors 199 = .ok (.goto 4, 3) := by decide +kernel
theorem dL_factors_202 : decode cL_factors 202 = .ok (.iconst 0, 1) := by decide +kernel
theorem dL_factors_203 : decode cL_factors 203 = .ok (.iload 9, 2) := by decide +kernel
theorem dL_factors_205 : decode cL_factors 205 = .ok (.iload 10, 2) := by decide +kernel
theorem dL_factors_207 : decode cL_factors 207 = .ok (.if_icmp .ne 7, 3) := by decide +kernel
theorem dL_factors_210 : decode cL_factors 210 = .ok (.iconst 1, 1) := by decide +kernel
theorem dL_factors_211 : decode cL_factors 211 = .ok (.goto 4, 3) := by decide +kernel
theorem dL_factors_214 : decode cL_factors 214 = .ok (.iconst 0, 1) := by decide +kernel
theorem dL_factors_215 : decode cL_factors 215 = .ok (.if_icmp .ne 247, 3) := by decide +kernel
theorem dL_factors_218 : decode cL_factors 218 = .ok (.aload_n 0, 1) := by decide +kernel
theorem dL_factors_219 : decode cL_factors 219 = .ok (.iload 5, 2) := by decide +kernel
theorem dL_factors_221 : decode cL_factors 221 = .ok (.iload 9, 2) := by decide +kernel
theorem dL_factors_223 : decode cL_factors 223 = .ok (.iload 7, 2) := by decide +kernel
theorem dL_factors_225 : decode cL_factors 225 = .ok (.isub, 1) := by decide +kernel
theorem dL_factors_226 : decode cL_factors 226 = .ok (.iload 7, 2) := by decide +kernel
theorem dL_factors_228 : decode cL_factors 228 = .ok (.invokestatic 42, 3) := by decide +kernel
theorem dL_factors_231 : decode cL_factors 231 = .ok (.ifCond .eq 231, 3) := by decide +kernel
theorem dL_factors_234 : decode cL_factors 234 = .ok (.aload_n 0, 1) := by decide +kernel
theorem dL_factors_235 : decode cL_factors 235 = .ok (.iload 5, 2) := by decide +kernel
theorem dL_factors_237 : decode cL_factors 237 = .ok (.iload 10, 2) := by decide +kernel
theorem dL_factors_239 : decode cL_factors 239 = .ok (.iload 7, 2) := by decide +kernel
theorem dL_factors_241 : decode cL_factors 241 = .ok (.isub, 1) := by decide +kernel
theorem dL_factors_242 : decode cL_factors 242 = .ok (.iload 7, 2) := by decide +kernel
theorem dL_factors_244 : decode cL_factors 244 = .ok (.invokestatic 42, 3) := by decide +kernel
theorem dL_factors_247 : decode cL_factors 247 = .ok (.ifCond .eq 215, 3) := by decide +kernel
theorem dL_factors_250 : decode cL_factors 250 = .ok (.iload 11, 2) := by decide +kernel
theorem dL_factors_252 : decode cL_factors 252 = .ok (.iload 12, 2) := by decide +kernel
theorem dL_factors_254 : decode cL_factors 254 = .ok (.iadd, 1) := by decide +kernel
theorem dL_factors_255 : decode cL_factors 255 = .ok (.iload 7, 2) := by decide +kernel
theorem dL_factors_257 : decode cL_factors 257 = .ok (.if_icmp .ne 205, 3) := by decide +kernel
theorem dL_factors_260 : decode cL_factors 260 = .ok (.iload 11, 2) := by decide +kernel
theorem dL_factors_262 : decode cL_factors 262 = .ok (.ifCond .le 200, 3) := by decide +kernel
theorem dL_factors_265 : decode cL_factors 265 = .ok (.aload_n 0, 1) := by decide +kernel
theorem dL_factors_266 : decode cL_factors 266 = .ok (.iload 5, 2) := by decide +kernel
theorem dL_factors_268 : decode cL_factors 268 = .ok (.iload 6, 2) := by decide +kernel
theorem dL_factors_270 : decode cL_factors 270 = .ok (.iload 12, 2) := by decide +kernel
theorem dL_factors_272 : decode cL_factors 272 = .ok (.isub, 1) := by decide +kernel
theorem dL_factors_273 : decode cL_factors 273 = .ok (.iload 12, 2) := by decide +kernel
theorem dL_factors_275 : decode cL_factors 275 = .ok (.invokestatic 42, 3) := by decide +kernel
theorem dL_factors_278 : decode cL_factors 278 = .ok (.ifCond .eq 184, 3) := by decide +kernel
theorem dL_factors_281 : decode cL_factors 281 = .ok (.iload 13, 2) := by decide +kernel
theorem dL_factors_283 : decode cL_factors 283 = .ok (.iload 7, 2) := by decide +kernel
theorem dL_factors_285 : decode cL_factors 285 = .ok (.if_icmp .lt 177, 3) := by decide +kernel
theorem dL_factors_288 : decode cL_factors 288 = .ok (.iload 14, 2) := by decide +kernel
theorem dL_factors_290 : decode cL_factors 290 = .ok (.iload 7, 2) := by decide +kernel
theorem dL_factors_292 : decode cL_factors 292 = .ok (.if_icmp .gt 170, 3) := by decide +kernel
theorem dL_factors_295 : decode cL_factors 295 = .ok (.aload_n 0, 1) := by decide +kernel
theorem dL_factors_296 : decode cL_factors 296 = .ok (.iload 5, 2) := by decide +kernel
theorem dL_factors_298 : decode cL_factors 298 = .ok (.iload 6, 2) := by decide +kernel
theorem dL_factors_300 : decode cL_factors 300 = .ok (.iconst 5, 1) := by decide +kernel
theorem dL_factors_301 : decode cL_factors 301 = .ok (.invokevirtual 38, 3) := by decide +kernel
theorem dL_factors_304 : decode cL_factors 304 = .ok (.iload 14, 2) := by decide +kernel
theorem dL_factors_306 : decode cL_factors 306 = .ok (.iconst 1, 1) := by decide +kernel
theorem dL_factors_307 : decode cL_factors 307 = .ok (.isub, 1) := by decide +kernel
theorem dL_factors_308 : decode cL_factors 308 = .ok (.if_icmp .ne 154, 3) := by decide +kernel
theorem dL_factors_311 : decode cL_factors 311 = .ok (.aload_n 0, 1) := by decide +kernel
theorem dL_factors_312 : decode cL_factors 312 = .ok (.iload 5, 2) := by decide +kernel
theorem dL_factors_314 : decode cL_factors 314 = .ok (.iload 6, 2) := by decide +kernel
theorem dL_factors_316 : decode cL_factors 316 = .ok (.bipush 8, 2) := by decide +kernel
theorem dL_factors_318 : decode cL_factors 318 = .ok (.invokevirtual 38, 3) := by decide +kernel
theorem dL_factors_321 : decode cL_factors 321 = .ok (.iload 7, 2) := by decide +kernel
theorem dL_factors_323 : decode cL_factors 323 = .ok (.iload 11, 2) := by decide +kernel
theorem dL_factors_325 : decode cL_factors 325 = .ok (.irem, 1) := by decide +kernel
theorem dL_factors_326 : decode cL_factors 326 = .ok (.ifCond .ne 14, 3) := by decide +kernel
theorem dL_factors_329 : decode cL_factors 329 = .ok (.iload 11, 2) := by decide +kernel
theorem dL_factors_331 : decode cL_factors 331 = .ok (.iload 7, 2) := by decide +kernel
theorem dL_factors_333 : decode cL_factors 333 = .ok (.if_icmp .ge 7, 3) := by decide +kernel
theorem dL_factors_336 : decode cL_factors 336 = .ok (.iconst 0, 1) := by decide +kernel
theorem dL_factors_337 : decode cL_factors 337 = .ok (.goto 4, 3) := by decide +kernel
theorem dL_factors_340 : decode cL_factors 340 = .ok (.iconst 1, 1) := by decide +kernel
theorem dL_factors_341 : decode cL_factors 341 = .ok (.if_icmp .ne 121, 3) := by decide +kernel
theorem dL_factors_344 : decode cL_factors 344 = .ok (.aload_n 0, 1) := by decide +kernel
theorem dL_factors_345 : decode cL_factors 345 = .ok (.iload 5, 2) := by decide +kernel
theorem dL_factors_347 : decode cL_factors 347 = .ok (.iload 6, 2) := by decide +kernel
theorem dL_factors_349 : decode cL_factors 349 = .ok (.bipush 9, 2) := by decide +kernel
theorem dL_factors_351 : decode cL_factors 351 = .ok (.invokevirtual 38, 3) := by decide +kernel
theorem dL_factors_354 : decode cL_factors 354 = .ok (.bipush 100, 2) := by decide +kernel
theorem dL_factors_356 : decode cL_factors 356 = .ok (.iload 7, 2) := by decide +kernel
theorem dL_factors_358 : decode cL_factors 358 = .ok (.imul, 1) := by decide +kernel
theorem dL_factors_359 : decode cL_factors 359 = .ok (.iload 11, 2) := by decide +kernel
theorem dL_factors_361 : decode cL_factors 361 = .ok (.idiv, 1) := by decide +kernel
theorem dL_factors_362 : decode cL_factors 362 = .ok (.if_icmp .ne 100, 3) := by decide +kernel
theorem dL_factors_365 : decode cL_factors 365 = .ok (.iload 6, 2) := by decide +kernel
theorem dL_factors_367 : decode cL_factors 367 = .ok (.iload 13, 2) := by decide +kernel
theorem dL_factors_369 : decode cL_factors 369 = .ok (.isub, 1) := by decide +kernel
theorem dL_factors_370 : decode cL_factors 370 = .ok (.ifCond .lt 92, 3) := by decide +kernel
theorem dL_factors_373 : decode cL_factors 373 = .ok (.aload_n 0, 1) := by decide +kernel
theorem dL_factors_374 : decode cL_factors 374 = .ok (.iload 6, 2) := by decide +kernel
theorem dL_factors_376 : decode cL_factors 376 = .ok (.iload 13, 2) := by decide +kernel
theorem dL_factors_378 : decode cL_factors 378 = .ok (.isub, 1) := by decide +kernel
theorem dL_factors_379 : decode cL_factors 379 = .ok (.iload 6, 2) := by decide +kernel
theorem dL_factors_381 : decode cL_factors 381 = .ok (.iconst 0, 1) := by decide +kernel
theorem dL_factors_382 : decode cL_factors 382 = .ok (.invokevirtual 38, 3) := by decide +kernel
theorem dL_factors_385 : decode cL_factors 385 = .ok (.iload 8, 2) := by decide +kernel
theorem dL_factors_387 : decode cL_factors 387 = .ok (.if_icmp .ne 75, 3) := by decide +kernel
theorem dL_factors_390 : decode cL_factors 390 = .ok (.aload_n 0, 1) := by decide +kernel
theorem dL_factors_391 : decode cL_factors 391 = .ok (.iload 6, 2) := by decide +kernel
theorem dL_factors_393 : decode cL_factors 393 = .ok (.iload 14, 2) := by decide +kernel
theorem dL_factors_395 : decode cL_factors 395 = .ok (.isub, 1) := by decide +kernel
theorem dL_factors_396 : decode cL_factors 396 = .ok (.iload 6, 2) := by decide +kernel
theorem dL_factors_398 : decode cL_factors 398 = .ok (.iconst 0, 1) := by decide +kernel
theorem dL_factors_399 : decode cL_factors 399 = .ok (.invokevirtual 38, 3) := by decide +kernel
theorem dL_factors_402 : decode cL_factors 402 = .ok (.iload 8, 2) := by decide +kernel
theorem dL_factors_404 : decode cL_factors 404 = .ok (.if_icmp .ne 58, 3) := by decide +kernel
theorem dL_factors_407 : decode cL_factors 407 = .ok (.iload 14, 2) := by decide +kernel
theorem dL_factors_409 : decode cL_factors 409 = .ok (.iconst 1, 1) := by decide +kernel
theorem dL_factors_410 : decode cL_factors 410 = .ok (.if_icmp .eq 22, 3) := by decide +kernel
theorem dL_factors_413 : decode cL_factors 413 = .ok (.aload_n 0, 1) := by decide +kernel
theorem dL_factors_414 : decode cL_factors 414 = .ok (.iload 6, 2) := by decide +kernel
theorem dL_factors_416 : decode cL_factors 416 = .ok (.iload 14, 2) := by decide +kernel
theorem dL_factors_418 : decode cL_factors 418 = .ok (.isub, 1) := by decide +kernel
theorem dL_factors_419 : decode cL_factors 419 = .ok (.iconst 1, 1) := by decide +kernel
theorem dL_factors_420 : decode cL_factors 420 = .ok (.iadd, 1) := by decide +kernel
theorem dL_factors_421 : decode cL_factors 421 = .ok (.iload 6, 2) := by decide +kernel
theorem dL_factors_423 : decode cL_factors 423 = .ok (.iconst 0, 1) := by decide +kernel
theorem dL_factors_424 : decode cL_factors 424 = .ok (.invokevirtual 38, 3) := by decide +kernel
theorem dL_factors_427 : decode cL_factors 427 = .ok (.iload 8, 2) := by decide +kernel
theorem dL_factors_429 : decode cL_factors 429 = .ok (.if_icmp .le 33, 3) := by decide +kernel
theorem dL_factors_432 : decode cL_factors 432 = .ok (.iload 6, 2) := by decide +kernel
theorem dL_factors_434 : decode cL_factors 434 = .ok (.iload 13, 2) := by decide +kernel
theorem dL_factors_436 : decode cL_factors 436 = .ok (.if_icmp .eq 22, 3) := by decide +kernel
theorem dL_factors_439 : decode cL_factors 439 = .ok (.aload_n 0, 1) := by decide +kernel
theorem dL_factors_440 : decode cL_factors 440 = .ok (.iload 6, 2) := by decide +kernel
theorem dL_factors_442 : decode cL_factors 442 = .ok (.iload 13, 2) := by decide +kernel
theorem dL_factors_444 : decode cL_factors 444 = .ok (.isub, 1) := by decide +kernel
theorem dL_factors_445 : decode cL_factors 445 = .ok (.iconst 1, 1) := by decide +kernel
theorem dL_factors_446 : decode cL_factors 446 = .ok (.isub, 1) := by decide +kernel
theorem dL_factors_447 : decode cL_factors 447 = .ok (.iload 6, 2) := by decide +kernel
theorem dL_factors_449 : decode cL_factors 449 = .ok (.iconst 0, 1) := by decide +kernel
theorem dL_factors_450 : decode cL_factors 450 = .ok (.invokevirtual 38, 3) := by decide +kernel
theorem dL_factors_453 : decode cL_factors 453 = .ok (.iload 8, 2) := by decide +kernel
theorem dL_factors_455 : decode cL_factors 455 = .ok (.if_icmp .ge 7, 3) := by decide +kernel
theorem dL_factors_458 : decode cL_factors 458 = .ok (.iconst 1, 1) := by decide +kernel
theorem dL_factors_459 : decode cL_factors 459 = .ok (.goto 4, 3) := by decide +kernel
theorem dL_factors_462 : decode cL_factors 462 = .ok (.iconst 0, 1) := by decide +kernel
theorem dL_factors_463 : decode cL_factors 463 = .ok (.istore_n 3, 1) := by decide +kernel
theorem dL_factors_464 : decode cL_factors 464 = .ok (.iinc 4 1, 3) := by decide +kernel
theorem dL_factors_467 : decode cL_factors 467 = .ok (.goto (-428), 3) := by decide +kernel
theorem dL_factors_470 : decode cL_factors 470 = .ok (.iload_n 3, 1) := by decide +kernel
theorem dL_factors_471 : decode cL_factors 471 = .ok (.ireturn, 1) := by decide +kernel
set_option maxRecDepth 20000 in
theorem ggL_hangs_X9_count : GoodIn wsL_hangs wsX9_count := goodIn_r _ [5, 6, 7, 8, 9, 10, 11, 12, 13, 14, 15, 16, 17, 18, 19, 20, 21, 22, 23, 24, 25, 26, 27, 28, 29, 30, 31, 32, 33, 34, 35, 36, 37, 38, 39, 40, 41, 42, 43, 44, 45, 46, 47, 48, 49, 50, 51, 52, 53, 54, 55, 56, 57, 58, 59, 60, 61, 62, 63, 64, 65, 66, 67, 68, 69, 70, 71, 72, 73, 74, 75, 76, 77, 78, 79, 80, 81, 82, 83, 84, 85, 86, 87, 88, 89, 90, 91, 92, 93, 94, 95, 96, 97, 98, 99, 100, 101, 102, 103, 104, 105, 106, 107, 108, 109, 110, 111, 112, 113, 114, 115, 116, 117, 118, 119, 120, 121, 122, 123, 124, 125, 231, 232, 233, 234, 235, 236, 237, 238, 239, 240, 241, 242, 243, 244] (by decide +kernel) (by decide +kernel)
set_option maxRecDepth 20000 in
theorem gL_hangs_X9_count : GoodIn wsL_hangs (wsV RL 35 RX9 yX9_count wsX9_count) := goodIn_app (goodIn_of _ (by decide +kernel)) ggL_hangs_X9_count
set_option maxRecDepth 20000 in
theorem ggL_hangs_X9_at : GoodIn wsL_hangs wsX9_at := goodIn_r _ [129, 6, 130, 131, 132, 12, 133, 14, 134, 20, 21, 22, 23, 135, 136, 137, 138, 139, 10, 11, 13, 140, 141, 142, 143, 78, 79, 80, 81, 42, 43, 44, 19, 144, 145, 146, 84, 147, 86, 87, 88, 89, 90, 91, 92, 93, 94, 95, 96, 97, 98, 99, 148, 72, 68, 73, 74, 75, 76, 77, 231, 232, 233, 234, 235, 236, 237, 238, 239] (by decide +kernel) (by decide +kernel)
set_option maxRecDepth 20000 in
theorem gL_hangs_X9_at : GoodIn wsL_hangs (wsV RL 32 RX9 yX9_at wsX9_at) := goodIn_app (goodIn_of _ (by decide +kernel)) ggL_hangs_X9_at
set_option maxRecDepth 20000 in
theorem ggL_hangs_X9_suffix : GoodIn wsL_hangs wsX9_suffix := goodIn_r _ [152, 6, 153, 154, 137, 155, 139, 10, 11, 12, 13, 14, 156, 136, 138, 140, 141, 142, 143, 78, 79, 80, 81, 42, 43, 44, 19, 20, 21, 22, 23, 144, 231, 232, 233, 234, 235, 236, 237, 238, 239] (by decide +kernel) (by decide +kernel)
set_option maxRecDepth 20000 in
theorem gL_hangs_X9_suffix : GoodIn wsL_hangs (wsV RL 48 RX9 yX9_suffix wsX9_suffix) := goodIn_app (goodIn_of _ (by decide +kernel)) ggL_hangs_X9_suffix
set_option maxRecDepth 20000 in
theorem ggL_hangs_X9_unlike : GoodIn wsL_hangs wsX9_unlike := goodIn_r _ [160, 6, 9, 10, 11, 12, 13, 14, 31, 32, 33, 34, 35, 36, 37, 38, 39, 40, 41, 42, 43, 44, 45, 46, 47, 48, 49, 50, 51, 19, 20, 21, 22, 23, 231, 232, 233, 234, 235, 236, 237, 238, 239] (by decide +kernel) (by decide +kernel)
set_option maxRecDepth 20000 in
theorem gL_hangs_X9_unlike : GoodIn wsL_hangs (wsV RL 51 RX9 yX9_unlike wsX9_unlike) := goodIn_app (goodIn_of _ (by decide +kernel)) ggL_hangs_X9_unlike
set_option maxRecDepth 20000 in
theorem ggL_hangs_X9_alike : GoodIn wsL_hangs wsX9_alike := goodIn_r _ [164, 6, 130, 131, 132, 12, 133, 14, 165, 78, 79, 80, 81, 42, 43, 44, 19, 20, 21, 22, 23, 231, 232, 233, 234, 235, 236, 237, 238, 239] (by decide +kernel) (by decide +kernel)
set_option maxRecDepth 20000 in
theorem gL_hangs_X9_alike : GoodIn wsL_hangs (wsV RL 54 RX9 yX9_alike wsX9_alike) := goodIn_app (goodIn_of _ (by decide +kernel)) ggL_hangs_X9_alike
set_option maxRecDepth 20000 in
theorem ggL_hangs_X9_border : GoodIn wsL_hangs wsX9_border := goodIn_r _ [169, 6, 9, 10, 11, 12, 13, 14, 170, 171, 94, 172, 96, 97, 98, 99, 20, 21, 22, 23, 231, 232, 233, 234, 235, 236, 237, 238, 239] (by decide +kernel) (by decide +kernel)
set_option maxRecDepth 20000 in
theorem gL_hangs_X9_border : GoodIn wsL_hangs (wsV RL 57 RX9 yX9_border wsX9_border) := goodIn_app (goodIn_of _ (by decide +kernel)) ggL_hangs_X9_border
set_option maxRecDepth 20000 in
theorem ggL_hangs_L_same : GoodIn wsL_hangs wsL_same := goodIn_r _ [176, 126, 127, 128, 4, 129, 6, 130, 131, 132, 12, 133, 14, 134, 20, 21, 22, 23, 135, 136, 137, 138, 139, 10, 11, 13, 140, 141, 142, 143, 78, 79, 80, 81, 42, 43, 44, 19, 144, 145, 146, 84, 147, 86, 87, 88, 89, 90, 91, 92, 93, 94, 95, 96, 97, 98, 99, 148, 72, 68, 73, 74, 75, 76, 77, 231, 232, 233, 234, 235, 236, 237, 238, 239] (by decide +kernel) (by decide +kernel)
set_option maxRecDepth 20000 in
theorem gL_hangs_L_same : GoodIn wsL_hangs (va_wsS RL 42 yL_same wsL_same) := goodIn_app (goodIn_of _ (by decide +kernel)) ggL_hangs_L_same
set_option maxRecDepth 20000 in
theorem ggL_hangs_X9_square : GoodIn wsL_hangs wsX9_square := goodIn_r _ [180, 6, 181, 182, 68, 183, 70, 10, 11, 12, 13, 14, 74, 75, 76, 77, 78, 79, 80, 81, 42, 43, 44, 19, 20, 21, 22, 23, 231, 232, 233, 234, 235, 236, 237, 238, 239] (by decide +kernel) (by decide +kernel)
set_option maxRecDepth 20000 in
theorem gL_hangs_X9_square : GoodIn wsL_hangs (wsV RL 60 RX9 yX9_square wsX9_square) := goodIn_app (goodIn_of _ (by decide +kernel)) ggL_hangs_X9_square
set_option maxRecDepth 20000 in
theorem ggL_hangs_X9_run : GoodIn wsL_hangs wsX9_run := goodIn_r _ [187, 6, 188, 189, 84, 190, 86, 10, 11, 12, 13, 14, 87, 88, 89, 90, 20, 21, 22, 23, 91, 78, 79, 80, 81, 42, 43, 44, 19, 92, 93, 94, 95, 96, 97, 98, 99, 191, 192, 193, 194, 195, 196, 231, 232, 233, 234, 235, 236, 237, 238, 239] (by decide +kernel) (by decide +kernel)
set_option maxRecDepth 20000 in
theorem gL_hangs_X9_run : GoodIn wsL_hangs (wsV RL 63 RX9 yX9_run wsX9_run) := goodIn_app (goodIn_of _ (by decide +kernel)) ggL_hangs_X9_run
set_option maxRecDepth 20000 in
theorem ggL_hangs_X9_factor : GoodIn wsL_hangs wsX9_factor := goodIn_r _ [200, 6, 201, 202, 203, 12, 204, 14, 205, 206, 33, 207, 55, 10, 11, 13, 45, 46, 47, 48, 49, 50, 43, 51, 19, 20, 21, 22, 23, 208, 209, 210, 211, 212, 213, 214, 215, 216, 217, 218, 219, 220, 221, 222, 223, 41, 42, 44, 224, 104, 93, 94, 95, 96, 97, 98, 99, 100, 101, 102, 103, 225, 226, 227, 228, 229, 230, 231, 232, 233, 234, 235, 236, 237, 238, 239] (by decide +kernel) (by decide +kernel)
set_option maxRecDepth 20000 in
theorem gL_hangs_X9_factor : GoodIn wsL_hangs (wsV RL 38 RX9 yX9_factor wsX9_factor) := goodIn_app (goodIn_of _ (by decide +kernel)) ggL_hangs_X9_factor
theorem dL_hangs_0 : decode cL_hangs 0 = .ok (.aload_n 0, 1) := by decide +kernel
theorem dL_hangs_1 : decode cL_hangs 1 = .ok (.iconst 0, 1) := by decide +kernel
theorem dL_hangs_2 : decode cL_hangs 2 = .ok (.invokevirtual 35, 3) := by decide +kernel
theorem dL_hangs_5 : decode cL_hangs 5 = .ok (.istore_n 1, 1) := by decide +kernel
theorem dL_hangs_6 : decode cL_hangs 6 = .ok (.aload_n 0, 1) := by decide +kernel
theorem dL_hangs_7 : decode cL_hangs 7 = .ok (.iload_n 1, 1) := by decide +kernel
theorem dL_hangs_8 : decode cL_hangs 8 = .ok (.iconst 0, 1) := by decide +kernel
theorem dL_hangs_9 : decode cL_hangs 9 = .ok (.invokevirtual 32, 3) := by decide +kernel
theorem dL_hangs_12 : decode cL_hangs 12 = .ok (.iconst (-1), 1) := by decide +kernel
theorem dL_hangs_13 : decode cL_hangs 13 = .ok (.if_icmp .ne 49, 3) := by decide +kernel
theorem dL_hangs_16 : decode cL_hangs 16 = .ok (.aload_n 0, 1) := by decide +kernel
theorem dL_hangs_17 : decode cL_hangs 17 = .ok (.iload_n 1, 1) := by decide +kernel
theorem dL_hangs_18 : decode cL_hangs 18 = .ok (.invokevirtual 48, 3) := by decide +kernel
theorem dL_hangs_21 : decode cL_hangs 21 = .ok (.bipush (-4), 2) := by decide +kernel
theorem dL_hangs_23 : decode cL_hangs 23 = .ok (.if_icmp .ne 39, 3) := by decide +kernel
theorem dL_hangs_26 : decode cL_hangs 26 = .ok (.aload_n 0, 1) := by decide +kernel
theorem dL_hangs_27 : decode cL_hangs 27 = .ok (.iload_n 1, 1) := by decide +kernel
theorem dL_hangs_28 : decode cL_hangs 28 = .ok (.invokevirtual 51, 3) := by decide +kernel
theorem dL_hangs_31 : decode cL_hangs 31 = .ok (.aload_n 0, 1) := by decide +kernel
theorem dL_hangs_32 : decode cL_hangs 32 = .ok (.iconst 2, 1) := by decide +kernel
theorem dL_hangs_33 : decode cL_hangs 33 = .ok (.invokevirtual 35, 3) := by decide +kernel
theorem dL_hangs_36 : decode cL_hangs 36 = .ok (.if_icmp .ne 26, 3) := by decide +kernel
theorem dL_hangs_39 : decode cL_hangs 39 = .ok (.aload_n 0, 1) := by decide +kernel
theorem dL_hangs_40 : decode cL_hangs 40 = .ok (.iload_n 1, 1) := by decide +kernel
theorem dL_hangs_41 : decode cL_hangs 41 = .ok (.iconst 1, 1) := by decide +kernel
theorem dL_hangs_42 : decode cL_hangs 42 = .ok (.iadd, 1) := by decide +kernel
theorem dL_hangs_43 : decode cL_hangs 43 = .ok (.invokevirtual 51, 3) := by decide +kernel
theorem dL_hangs_46 : decode cL_hangs 46 = .ok (.iconst (-1), 1) := by decide +kernel
theorem dL_hangs_47 : decode cL_hangs 47 = .ok (.if_icmp .ne 15, 3) := by decide +kernel
theorem dL_hangs_50 : decode cL_hangs 50 = .ok (.aload_n 0, 1) := by decide +kernel
theorem dL_hangs_51 : decode cL_hangs 51 = .ok (.iconst 0, 1) := by decide +kernel
theorem dL_hangs_52 : decode cL_hangs 52 = .ok (.invokevirtual 51, 3) := by decide +kernel
theorem dL_hangs_55 : decode cL_hangs 55 = .ok (.ifCond .ne 7, 3) := by decide +kernel
theorem dL_hangs_58 : decode cL_hangs 58 = .ok (.iconst 1, 1) := by decide +kernel
theorem dL_hangs_59 : decode cL_hangs 59 = .ok (.goto 4, 3) := by decide +kernel
theorem dL_hangs_62 : decode cL_hangs 62 = .ok (.iconst 0, 1) := by decide +kernel
theorem dL_hangs_63 : decode cL_hangs 63 = .ok (.istore_n 2, 1) := by decide +kernel
theorem dL_hangs_64 : decode cL_hangs 64 = .ok (.iconst 0, 1) := by decide +kernel
theorem dL_hangs_65 : decode cL_hangs 65 = .ok (.istore_n 3, 1) := by decide +kernel
theorem dL_hangs_66 : decode cL_hangs 66 = .ok (.iconst 0, 1) := by decide +kernel
theorem dL_hangs_67 : decode cL_hangs 67 = .ok (.istore 4, 2) := by decide +kernel
theorem dL_hangs_69 : decode cL_hangs 69 = .ok (.iconst 0, 1) := by decide +kernel
theorem dL_hangs_70 : decode cL_hangs 70 = .ok (.istore 5, 2) := by decide +kernel
theorem dL_hangs_72 : decode cL_hangs 72 = .ok (.iload 5, 2) := by decide +kernel
theorem dL_hangs_74 : decode cL_hangs 74 = .ok (.iload_n 1, 1) := by decide +kernel
theorem dL_hangs_75 : decode cL_hangs 75 = .ok (.if_icmp .ge 191, 3) := by decide +kernel
theorem dL_hangs_78 : decode cL_hangs 78 = .ok (.iload_n 2, 1) := by decide +kernel
theorem dL_hangs_79 : decode cL_hangs 79 = .ok (.ifCond .eq 187, 3) := by decide +kernel
theorem dL_hangs_82 : decode cL_hangs 82 = .ok (.aload_n 0, 1) := by decide +kernel
theorem dL_hangs_83 : decode cL_hangs 83 = .ok (.iload 5, 2) := by decide +kernel
theorem dL_hangs_85 : decode cL_hangs 85 = .ok (.invokevirtual 48, 3) := by decide +kernel
theorem dL_hangs_88 : decode cL_hangs 88 = .ok (.istore 6, 2) := by decide +kernel
theorem dL_hangs_90 : decode cL_hangs 90 = .ok (.iload 5, 2) := by decide +kernel
theorem dL_hangs_92 : decode cL_hangs 92 = .ok (.iconst 1, 1) := by decide +kernel
theorem dL_hangs_93 : decode cL_hangs 93 = .ok (.iadd, 1) := by decide +kernel
theorem dL_hangs_94 : decode cL_hangs 94 = .ok (.iload_n 1, 1) := by decide +kernel
theorem dL_hangs_95 : decode cL_hangs 95 = .ok (.if_icmp .ge 14, 3) := by decide +kernel
theorem dL_hangs_98 : decode cL_hangs 98 = .ok (.aload_n 0, 1) := by decide +kernel
theorem dL_hangs_99 : decode cL_hangs 99 = .ok (.iload 5, 2) := by decide +kernel
theorem dL_hangs_101 : decode cL_hangs 101 = .ok (.iconst 1, 1) := by decide +kernel
theorem dL_hangs_102 : decode cL_hangs 102 = .ok (.iadd, 1) := by decide +kernel
theorem dL_hangs_103 : decode cL_hangs 103 = .ok (.invokevirtual 48, 3) := by decide +kernel
theorem dL_hangs_106 : decode cL_hangs 106 = .ok (.goto 4, 3) := by decide +kernel
theorem dL_hangs_109 : decode cL_hangs 109 = .ok (.iconst (-1), 1) := by decide +kernel
theorem dL_hangs_110 : decode cL_hangs 110 = .ok (.istore 7, 2) := by decide +kernel
theorem dL_hangs_112 : decode cL_hangs 112 = .ok (.iload 7, 2) := by decide +kernel
theorem dL_hangs_114 : decode cL_hangs 114 = .ok (.ifCond .ge 7, 3) := by decide +kernel
theorem dL_hangs_117 : decode cL_hangs 117 = .ok (.iconst 0, 1) := by decide +kernel
theorem dL_hangs_118 : decode cL_hangs 118 = .ok (.goto 11, 3) := by decide +kernel
theorem dL_hangs_121 : decode cL_hangs 121 = .ok (.aload_n 0, 1) := by decide +kernel
theorem dL_hangs_122 : decode cL_hangs 122 = .ok (.iload 6, 2) := by decide +kernel
theorem dL_hangs_124 : decode cL_hangs 124 = .ok (.iload 7, 2) := by decide +kernel
theorem dL_hangs_126 : decode cL_hangs 126 = .ok (.invokevirtual 54, 3) := by decide +kernel
theorem dL_hangs_129 : decode cL_hangs 129 = .ok (.istore 8, 2) := by decide +kernel
theorem dL_hangs_131 : decode cL_hangs 131 = .ok (.aload_n 0, 1) := by decide +kernel
theorem dL_hangs_132 : decode cL_hangs 132 = .ok (.iload 6, 2) := by decide +kernel
theorem dL_hangs_134 : decode cL_hangs 134 = .ok (.iconst 1, 1) := by decide +kernel
theorem dL_hangs_135 : decode cL_hangs 135 = .ok (.invokevirtual 32, 3) := by decide +kernel
theorem dL_hangs_138 : decode cL_hangs 138 = .ok (.iload 5, 2) := by decide +kernel
theorem dL_hangs_140 : decode cL_hangs 140 = .ok (.if_icmp .ne 85, 3) := by decide +kernel
theorem dL_hangs_143 : decode cL_hangs 143 = .ok (.aload_n 0, 1) := by decide +kernel
theorem dL_hangs_144 : decode cL_hangs 144 = .ok (.iload 6, 2) := by decide +kernel
theorem dL_hangs_146 : decode cL_hangs 146 = .ok (.iload 6, 2) := by decide +kernel
theorem dL_hangs_148 : decode cL_hangs 148 = .ok (.invokevirtual 54, 3) := by decide +kernel
theorem dL_hangs_151 : decode cL_hangs 151 = .ok (.iload_n 1, 1) := by decide +kernel
theorem dL_hangs_152 : decode cL_hangs 152 = .ok (.iload 6, 2) := by decide +kernel
theorem dL_hangs_154 : decode cL_hangs 154 = .ok (.isub, 1) := by decide +kernel
theorem dL_hangs_155 : decode cL_hangs 155 = .ok (.if_icmp .ne 70, 3) := by decide +kernel
theorem dL_hangs_158 : decode cL_hangs 158 = .ok (.iload 7, 2) := by decide +kernel
theorem dL_hangs_160 : decode cL_hangs 160 = .ok (.ifCond .lt 44, 3) := by decide +kernel
theorem dL_hangs_163 : decode cL_hangs 163 = .ok (.iload 6, 2) := by decide +kernel
theorem dL_hangs_165 : decode cL_hangs 165 = .ok (.iload 8, 2) := by decide +kernel
theorem dL_hangs_167 : decode cL_hangs 167 = .ok (.iadd, 1) := by decide +kernel
theorem dL_hangs_168 : decode cL_hangs 168 = .ok (.iload_n 1, 1) := by decide +kernel
theorem dL_hangs_169 : decode cL_hangs 169 = .ok (.if_icmp .eq 35, 3) := by decide +kernel
theorem dL_hangs_172 : decode cL_hangs 172 = .ok (.iload 7, 2) := by decide +kernel
theorem dL_hangs_174 : decode cL_hangs 174 = .ok (.iload 8, 2) := by decide +kernel
theorem dL_hangs_176 : decode cL_hangs 176 = .ok (.iadd, 1) := by decide +kernel
theorem dL_hangs_177 : decode cL_hangs 177 = .ok (.iload_n 1, 1) := by decide +kernel
theorem dL_hangs_178 : decode cL_hangs 178 = .ok (.if_icmp .ge 47, 3) := by decide +kernel
theorem dL_hangs_181 : decode cL_hangs 181 = .ok (.aload_n 0, 1) := by decide +kernel
theorem dL_hangs_182 : decode cL_hangs 182 = .ok (.iload 6, 2) := by decide +kernel
theorem dL_hangs_184 : decode cL_hangs 184 = .ok (.iload 8, 2) := by decide +kernel
theorem dL_hangs_186 : decode cL_hangs 186 = .ok (.iadd, 1) := by decide +kernel
theorem dL_hangs_187 : decode cL_hangs 187 = .ok (.iconst 0, 1) := by decide +kernel
theorem dL_hangs_188 : decode cL_hangs 188 = .ok (.invokevirtual 32, 3) := by decide +kernel
theorem dL_hangs_191 : decode cL_hangs 191 = .ok (.aload_n 0, 1) := by decide +kernel
theorem dL_hangs_192 : decode cL_hangs 192 = .ok (.iload 7, 2) := by decide +kernel
theorem dL_hangs_194 : decode cL_hangs 194 = .ok (.iload 8, 2) := by decide +kernel
theorem dL_hangs_196 : decode cL_hangs 196 = .ok (.iadd, 1) := by decide +kernel
theorem dL_hangs_197 : decode cL_hangs 197 = .ok (.iconst 0, 1) := by decide +kernel
theorem dL_hangs_198 : decode cL_hangs 198 = .ok (.invokevirtual 32, 3) := by decide +kernel
theorem dL_hangs_201 : decode cL_hangs 201 = .ok (.if_icmp .ge 24, 3) := by decide +kernel
theorem dL_hangs_204 : decode cL_hangs 204 = .ok (.aload_n 0, 1) := by decide +kernel
theorem dL_hangs_205 : decode cL_hangs 205 = .ok (.iload 5, 2) := by decide +kernel
theorem dL_hangs_207 : decode cL_hangs 207 = .ok (.iconst 1, 1) := by decide +kernel
theorem dL_hangs_208 : decode cL_hangs 208 = .ok (.iadd, 1) := by decide +kernel
theorem dL_hangs_209 : decode cL_hangs 209 = .ok (.invokevirtual 51, 3) := by decide +kernel
theorem dL_hangs_212 : decode cL_hangs 212 = .ok (.aload_n 0, 1) := by decide +kernel
theorem dL_hangs_213 : decode cL_hangs 213 = .ok (.iload 5, 2) := by decide +kernel
theorem dL_hangs_215 : decode cL_hangs 215 = .ok (.invokevirtual 51, 3) := by decide +kernel
theorem dL_hangs_218 : decode cL_hangs 218 = .ok (.if_icmp .le 7, 3) := by decide +kernel
theorem dL_hangs_221 : decode cL_hangs 221 = .ok (.iconst 1, 1) := by decide +kernel
theorem dL_hangs_222 : decode cL_hangs 222 = .ok (.goto 4, 3) := by decide +kernel
theorem dL_hangs_225 : decode cL_hangs 225 = .ok (.iconst 0, 1) := by decide +kernel
theorem dL_hangs_226 : decode cL_hangs 226 = .ok (.istore_n 2, 1) := by decide +kernel
theorem dL_hangs_227 : decode cL_hangs 227 = .ok (.iload 8, 2) := by decide +kernel
theorem dL_hangs_229 : decode cL_hangs 229 = .ok (.iload_n 3, 1) := by decide +kernel
theorem dL_hangs_230 : decode cL_hangs 230 = .ok (.if_icmp .le 8, 3) := by decide +kernel
theorem dL_hangs_233 : decode cL_hangs 233 = .ok (.iload 8, 2) := by decide +kernel
theorem dL_hangs_235 : decode cL_hangs 235 = .ok (.goto 4, 3) := by decide +kernel
theorem dL_hangs_238 : decode cL_hangs 238 = .ok (.iload_n 3, 1) := by decide +kernel
theorem dL_hangs_239 : decode cL_hangs 239 = .ok (.istore_n 3, 1) := by decide +kernel
theorem dL_hangs_240 : decode cL_hangs 240 = .ok (.iload 4, 2) := by decide +kernel
theorem dL_hangs_242 : decode cL_hangs 242 = .ok (.iload 7, 2) := by decide +kernel
theorem dL_hangs_244 : decode cL_hangs 244 = .ok (.ifCond .lt 8, 3) := by decide +kernel
theorem dL_hangs_247 : decode cL_hangs 247 = .ok (.iload 8, 2) := by decide +kernel
theorem dL_hangs_249 : decode cL_hangs 249 = .ok (.ifCond .ne 7, 3) := by decide +kernel
theorem dL_hangs_252 : decode cL_hangs 252 = .ok (.iconst 1, 1) := by decide +kernel
theorem dL_hangs_253 : decode cL_hangs 253 = .ok (.goto 4, 3) := by decide +kernel
theorem dL_hangs_256 : decode cL_hangs 256 = .ok (.iconst 0, 1) := by decide +kernel
theorem dL_hangs_257 : decode cL_hangs 257 = .ok (.iadd, 1) := by decide +kernel
theorem dL_hangs_258 : decode cL_hangs 258 = .ok (.istore 4, 2) := by decide +kernel
theorem dL_hangs_260 : decode cL_hangs 260 = .ok (.iinc 5 1, 3) := by decide +kernel
theorem dL_hangs_263 : decode cL_hangs 263 = .ok (.goto (-191), 3) := by decide +kernel
theorem dL_hangs_266 : decode cL_hangs 266 = .ok (.iload_n 1, 1) := by decide +kernel
theorem dL_hangs_267 : decode cL_hangs 267 = .ok (.istore 5, 2) := by decide +kernel
theorem dL_hangs_269 : decode cL_hangs 269 = .ok (.iconst 0, 1) := by decide +kernel
theorem dL_hangs_270 : decode cL_hangs 270 = .ok (.istore 6, 2) := by decide +kernel
theorem dL_hangs_272 : decode cL_hangs 272 = .ok (.iload_n 2, 1) := by decide +kernel
theorem dL_hangs_273 : decode cL_hangs 273 = .ok (.ifCond .eq 70, 3) := by decide +kernel
theorem dL_hangs_276 : decode cL_hangs 276 = .ok (.iload_n 1, 1) := by decide +kernel
theorem dL_hangs_277 : decode cL_hangs 277 = .ok (.ifCond .le 66, 3) := by decide +kernel
theorem dL_hangs_280 : decode cL_hangs 280 = .ok (.iload 5, 2) := by decide +kernel
theorem dL_hangs_282 : decode cL_hangs 282 = .ok (.ifCond .le 61, 3) := by decide +kernel
theorem dL_hangs_285 : decode cL_hangs 285 = .ok (.aload_n 0, 1) := by decide +kernel
theorem dL_hangs_286 : decode cL_hangs 286 = .ok (.iload_n 1, 1) := by decide +kernel
theorem dL_hangs_287 : decode cL_hangs 287 = .ok (.iload 6, 2) := by decide +kernel
theorem dL_hangs_289 : decode cL_hangs 289 = .ok (.invokevirtual 57, 3) := by decide +kernel
theorem dL_hangs_292 : decode cL_hangs 292 = .ok (.istore 7, 2) := by decide +kernel
theorem dL_hangs_294 : decode cL_hangs 294 = .ok (.iload 7, 2) := by decide +kernel
theorem dL_hangs_296 : decode cL_hangs 296 = .ok (.bipush (-4), 2) := by decide +kernel
theorem dL_hangs_298 : decode cL_hangs 298 = .ok (.if_icmp .eq 29, 3) := by decide +kernel
theorem dL_hangs_301 : decode cL_hangs 301 = .ok (.iload 7, 2) := by decide +kernel
theorem dL_hangs_303 : decode cL_hangs 303 = .ok (.ifCond .le 28, 3) := by decide +kernel
theorem dL_hangs_306 : decode cL_hangs 306 = .ok (.iload 7, 2) := by decide +kernel
theorem dL_hangs_308 : decode cL_hangs 308 = .ok (.iload 5, 2) := by decide +kernel
theorem dL_hangs_310 : decode cL_hangs 310 = .ok (.if_icmp .ge 21, 3) := by decide +kernel
theorem dL_hangs_313 : decode cL_hangs 313 = .ok (.aload_n 0, 1) := by decide +kernel
