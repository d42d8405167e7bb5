theorem dX9_type_12 : decode cX9_type 12 = .ok (.ireturn, 1) := by decide +kernel
theorem dX9_type_13 : decode cX9_type 13 = .ok (.aload_n 0, 1) := by decide +kernel
theorem dX9_type_14 : decode cX9_type 14 = .ok (.getfield 36, 3) := by decide +kernel
theorem dX9_type_17 : decode cX9_type 17 = .ok (.iload_n 1, 1) := by decide +kernel
theorem dX9_type_18 : decode cX9_type 18 = .ok (.invokevirtual 109, 3) := by decide +kernel
theorem dX9_type_21 : decode cX9_type 21 = .ok (.aload_n 0, 1) := by decide +kernel
theorem dX9_type_22 : decode cX9_type 22 = .ok (.getfield 36, 3) := by decide +kernel
theorem dX9_type_25 : decode cX9_type 25 = .ok (.invokevirtual 112, 3) := by decide +kernel
theorem dX9_type_28 : decode cX9_type 28 = .ok (.ireturn, 1) := by decide +kernel
set_option maxRecDepth 20000 in
theorem ggX9_clearText_X7_length : GoodIn wsX9_clearText wsX7_length := goodIn_r _ [6, 7, 19, 20] (by decide +kernel) (by decide +kernel)
set_option maxRecDepth 20000 in
theorem gX9_clearText_X7_length : GoodIn wsX9_clearText (wsV RX9 112 RX7 yX7_length wsX7_length) := goodIn_app (goodIn_of _ (by decide +kernel)) ggX9_clearText_X7_length
set_option maxRecDepth 20000 in
theorem ggX9_clearText_X7_clear : GoodIn wsX9_clearText wsX7_clear := goodIn_r _ [11, 7, 19, 20] (by decide +kernel) (by decide +kernel)
set_option maxRecDepth 20000 in
theorem gX9_clearText_X7_clear : GoodIn wsX9_clearText (wsV RX9 113 RX7 yX7_clear wsX7_clear) := goodIn_app (goodIn_of _ (by decide +kernel)) ggX9_clearText_X7_clear
theorem dX9_clearText_0 : decode cX9_clearText 0 = .ok (.aload_n 0, 1) := by decide +kernel
theorem dX9_clearText_1 : decode cX9_clearText 1 = .ok (.getfield 36, 3) := by decide +kernel
theorem dX9_clearText_4 : decode cX9_clearText 4 = .ok (.invokevirtual 112, 3) := by decide +kernel
theorem dX9_clearText_7 : decode cX9_clearText 7 = .ok (.istore_n 1, 1) := by decide +kernel
theorem dX9_clearText_8 : decode cX9_clearText 8 = .ok (.aload_n 0, 1) := by decide +kernel
theorem dX9_clearText_9 : decode cX9_clearText 9 = .ok (.getfield 36, 3) := by decide +kernel
theorem dX9_clearText_12 : decode cX9_clearText 12 = .ok (.invokevirtual 113, 3) := by decide +kernel
theorem dX9_clearText_15 : decode cX9_clearText 15 = .ok (.iload_n 1, 1) := by decide +kernel
theorem dX9_clearText_16 : decode cX9_clearText 16 = .ok (.ireturn, 1) := by decide +kernel
set_option maxRecDepth 20000 in
theorem ggX9_undo_X1_size : GoodIn wsX9_undo wsX1_size := goodIn_r _ [7, 8, 53, 54, 55] (by decide +kernel) (by decide +kernel)
set_option maxRecDepth 20000 in
theorem gX9_undo_X1_size : GoodIn wsX9_undo (wsV RX9 114 RX1 yX1_size wsX1_size) := goodIn_app (goodIn_of _ (by decide +kernel)) ggX9_undo_X1_size
set_option maxRecDepth 20000 in
theorem ggX9_undo_X1_moveLatestInto : GoodIn wsX9_undo wsX1_moveLatestInto := goodIn_r _ [12, 13, 14, 8, 15, 16, 17, 6, 18, 19, 20, 21, 22, 23, 24, 25, 26, 27, 28, 29, 30, 31, 32, 33, 34, 35, 36, 37, 38, 39, 40, 41, 42, 43, 44, 45, 53, 54, 55, 56, 57] (by decide +kernel) (by decide +kernel)
set_option maxRecDepth 20000 in
theorem gX9_undo_X1_moveLatestInto : GoodIn wsX9_undo (wsV RX9 117 RX1 yX1_moveLatestInto wsX1_moveLatestInto) := goodIn_app (goodIn_of _ (by decide +kernel)) ggX9_undo_X1_moveLatestInto
theorem dX9_undo_0 : decode cX9_undo 0 = .ok (.aload_n 0, 1) := by decide +kernel
theorem dX9_undo_1 : decode cX9_undo 1 = .ok (.getfield 29, 3) := by decide +kernel
theorem dX9_undo_4 : decode cX9_undo 4 = .ok (.invokevirtual 114, 3) := by decide +kernel
theorem dX9_undo_7 : decode cX9_undo 7 = .ok (.ifCond .ne 6, 3) := by decide +kernel
theorem dX9_undo_10 : decode cX9_undo 10 = .ok (.bipush (-4), 2) := by decide +kernel
theorem dX9_undo_12 : decode cX9_undo 12 = .ok (.ireturn, 1) := by decide +kernel
theorem dX9_undo_13 : decode cX9_undo 13 = .ok (.aload_n 0, 1) := by decide +kernel
theorem dX9_undo_14 : decode cX9_undo 14 = .ok (.getfield 29, 3) := by decide +kernel
theorem dX9_undo_17 : decode cX9_undo 17 = .ok (.aload_n 0, 1) := by decide +kernel
theorem dX9_undo_18 : decode cX9_undo 18 = .ok (.getfield 10, 3) := by decide +kernel
theorem dX9_undo_21 : decode cX9_undo 21 = .ok (.invokevirtual 117, 3) := by decide +kernel
theorem dX9_undo_24 : decode cX9_undo 24 = .ok (.aload_n 0, 1) := by decide +kernel
theorem dX9_undo_25 : decode cX9_undo 25 = .ok (.getfield 29, 3) := by decide +kernel
theorem dX9_undo_28 : decode cX9_undo 28 = .ok (.invokevirtual 114, 3) := by decide +kernel
theorem dX9_undo_31 : decode cX9_undo 31 = .ok (.ireturn, 1) := by decide +kernel
set_option maxRecDepth 20000 in
theorem ggX9_keep_X8_copyFrom : GoodIn wsX9_keep wsX8_copyFrom := goodIn_r _ [8, 9, 10, 11, 7, 12, 13, 14, 15, 16, 17, 18, 19, 20, 21, 22, 23, 24, 25, 26, 27, 28, 29, 30, 39, 40] (by decide +kernel) (by decide +kernel)
set_option maxRecDepth 20000 in
theorem gX9_keep_X8_copyFrom : GoodIn wsX9_keep (wsV RX9 98 RX8 yX8_copyFrom wsX8_copyFrom) := goodIn_app (goodIn_of _ (by decide +kernel)) ggX9_keep_X8_copyFrom
set_option maxRecDepth 20000 in
theorem ggX9_keep_X8_length : GoodIn wsX9_keep wsX8_length := goodIn_r _ [17, 13, 39, 40] (by decide +kernel) (by decide +kernel)
set_option maxRecDepth 20000 in
theorem gX9_keep_X8_length : GoodIn wsX9_keep (wsV RX9 63 RX8 yX8_length wsX8_length) := goodIn_app (goodIn_of _ (by decide +kernel)) ggX9_keep_X8_length
theorem dX9_keep_0 : decode cX9_keep 0 = .ok (.aload_n 0, 1) := by decide +kernel
theorem dX9_keep_1 : decode cX9_keep 1 = .ok (.getfield 19, 3) := by decide +kernel
theorem dX9_keep_4 : decode cX9_keep 4 = .ok (.aload_n 0, 1) := by decide +kernel
theorem dX9_keep_5 : decode cX9_keep 5 = .ok (.getfield 10, 3) := by decide +kernel
theorem dX9_keep_8 : decode cX9_keep 8 = .ok (.invokevirtual 98, 3) := by decide +kernel
theorem dX9_keep_11 : decode cX9_keep 11 = .ok (.aload_n 0, 1) := by decide +kernel
theorem dX9_keep_12 : decode cX9_keep 12 = .ok (.iconst 1, 1) := by decide +kernel
theorem dX9_keep_13 : decode cX9_keep 13 = .ok (.putfield 22, 3) := by decide +kernel
theorem dX9_keep_16 : decode cX9_keep 16 = .ok (.aload_n 0, 1) := by decide +kernel
theorem dX9_keep_17 : decode cX9_keep 17 = .ok (.getfield 10, 3) := by decide +kernel
theorem dX9_keep_20 : decode cX9_keep 20 = .ok (.invokevirtual 63, 3) := by decide +kernel
theorem dX9_keep_23 : decode cX9_keep 23 = .ok (.ireturn, 1) := by decide +kernel
set_option maxRecDepth 20000 in
theorem ggX9_restore_X9_become : GoodIn wsX9_restore wsX9_become := goodIn_r _ [8, 9, 3, 10, 11, 12, 13, 14, 15, 16, 17, 18, 19, 20, 21, 22, 23, 24, 25, 26, 27, 28, 29, 30, 31, 32, 33, 34, 35, 36, 37, 38, 39, 40, 41, 42, 43, 44, 45, 46, 47, 48, 49, 50, 51, 52, 53, 55, 56, 57, 58, 59, 60, 61, 62, 63, 64, 65, 66] (by decide +kernel) (by decide +kernel)
set_option maxRecDepth 20000 in
theorem gX9_restore_X9_become : GoodIn wsX9_restore (wsV RX9 59 RX9 yX9_become wsX9_become) := goodIn_app (goodIn_of _ (by decide +kernel)) ggX9_restore_X9_become
set_option maxRecDepth 20000 in
theorem ggX9_restore_X8_length : GoodIn wsX9_restore wsX8_length := goodIn_r _ [39, 35, 65, 66] (by decide +kernel) (by decide +kernel)
set_option maxRecDepth 20000 in
theorem gX9_restore_X8_length : GoodIn wsX9_restore (wsV RX9 63 RX8 yX8_length wsX8_length) := goodIn_app (goodIn_of _ (by decide +kernel)) ggX9_restore_X8_length
theorem dX9_restore_0 : decode cX9_restore 0 = .ok (.aload_n 0, 1) := by decide +kernel
theorem dX9_restore_1 : decode cX9_restore 1 = .ok (.getfield 22, 3) := by decide +kernel
theorem dX9_restore_4 : decode cX9_restore 4 = .ok (.ifCond .ne 6, 3) := by decide +kernel
theorem dX9_restore_7 : decode cX9_restore 7 = .ok (.bipush (-4), 2) := by decide +kernel
theorem dX9_restore_9 : decode cX9_restore 9 = .ok (.ireturn, 1) := by decide +kernel
theorem dX9_restore_10 : decode cX9_restore 10 = .ok (.aload_n 0, 1) := by decide +kernel
theorem dX9_restore_11 : decode cX9_restore 11 = .ok (.aload_n 0, 1) := by decide +kernel
theorem dX9_restore_12 : decode cX9_restore 12 = .ok (.getfield 19, 3) := by decide +kernel
theorem dX9_restore_15 : decode cX9_restore 15 = .ok (.invokevirtual 59, 3) := by decide +kernel
theorem dX9_restore_18 : decode cX9_restore 18 = .ok (.aload_n 0, 1) := by decide +kernel
theorem dX9_restore_19 : decode cX9_restore 19 = .ok (.getfield 10, 3) := by decide +kernel
theorem dX9_restore_22 : decode cX9_restore 22 = .ok (.invokevirtual 63, 3) := by decide +kernel
theorem dX9_restore_25 : decode cX9_restore 25 = .ok (.ireturn, 1) := by decide +kernel
set_option maxRecDepth 20000 in
theorem ggX9_at_X8_isPlace : GoodIn wsX9_at wsX8_isPlace := goodIn_r _ [6, 7, 67, 68] (by decide +kernel) (by decide +kernel)
set_option maxRecDepth 20000 in
theorem gX9_at_X8_isPlace : GoodIn wsX9_at (wsV RX9 80 RX8 yX8_isPlace wsX8_isPlace) := goodIn_app (goodIn_of _ (by decide +kernel)) ggX9_at_X8_isPlace
set_option maxRecDepth 20000 in
theorem ggX9_at_X8_letterAt : GoodIn wsX9_at wsX8_letterAt := goodIn_r _ [11, 7, 12, 67, 68] (by decide +kernel) (by decide +kernel)
set_option maxRecDepth 20000 in
theorem gX9_at_X8_letterAt : GoodIn wsX9_at (wsV RX9 83 RX8 yX8_letterAt wsX8_letterAt) := goodIn_app (goodIn_of _ (by decide +kernel)) ggX9_at_X8_letterAt
set_option maxRecDepth 20000 in
theorem ggX9_at_X6_rank : GoodIn wsX9_at wsX6_rank := goodIn_r _ [16, 17, 18, 19, 5, 20, 7, 21, 22, 15, 23, 24, 25, 26, 27, 28, 29, 30, 31, 32, 9, 10, 11, 12, 33, 67, 68] (by decide +kernel) (by decide +kernel)
set_option maxRecDepth 20000 in
theorem gX9_at_X6_rank : GoodIn wsX9_at (va_wsS RX9 120 yX6_rank wsX6_rank) := goodIn_app (goodIn_of _ (by decide +kernel)) ggX9_at_X6_rank
set_option maxRecDepth 20000 in
theorem ggX9_at_X4_over : GoodIn wsX9_at wsX4_over := goodIn_r _ [37, 38, 18, 19, 5, 20, 7, 39, 40, 36, 41, 42, 9, 10, 11, 12, 43, 25, 26, 27, 28, 29, 30, 31, 32, 44, 45, 46, 47, 48, 49, 50, 51, 67, 68] (by decide +kernel) (by decide +kernel)
set_option maxRecDepth 20000 in
theorem gX9_at_X4_over : GoodIn wsX9_at (va_wsS RX9 126 yX4_over wsX4_over) := goodIn_app (goodIn_of _ (by decide +kernel)) ggX9_at_X4_over
set_option maxRecDepth 20000 in
theorem ggX9_at_X5_endingAt : GoodIn wsX9_at wsX5_endingAt := goodIn_r _ [55, 56, 57, 54, 58, 59, 25, 26, 5, 27, 7, 28, 29, 30, 31, 32, 9, 10, 11, 12, 67, 68] (by decide +kernel) (by decide +kernel)
set_option maxRecDepth 20000 in
theorem gX9_at_X5_endingAt : GoodIn wsX9_at (va_wsS RX9 131 yX5_endingAt wsX5_endingAt) := goodIn_app (goodIn_of _ (by decide +kernel)) ggX9_at_X5_endingAt
theorem dX9_at_0 : decode cX9_at 0 = .ok (.aload_n 0, 1) := by decide +kernel
theorem dX9_at_1 : decode cX9_at 1 = .ok (.getfield 10, 3) := by decide +kernel
theorem dX9_at_4 : decode cX9_at 4 = .ok (.iload_n 1, 1) := by decide +kernel
theorem dX9_at_5 : decode cX9_at 5 = .ok (.invokevirtual 80, 3) := by decide +kernel
theorem dX9_at_8 : decode cX9_at 8 = .ok (.ifCond .ne 5, 3) := by decide +kernel
theorem dX9_at_11 : decode cX9_at 11 = .ok (.iconst (-1), 1) := by decide +kernel
theorem dX9_at_12 : decode cX9_at 12 = .ok (.ireturn, 1) := by decide +kernel
theorem dX9_at_13 : decode cX9_at 13 = .ok (.iload_n 2, 1) := by decide +kernel
theorem dX9_at_14 : decode cX9_at 14 = .ok (.tableswitch 68 0 3 #[30, 39, 48, 57], 30) := by decide +kernel
theorem dX9_at_44 : decode cX9_at 44 = .ok (.aload_n 0, 1) := by decide +kernel
theorem dX9_at_45 : decode cX9_at 45 = .ok (.getfield 10, 3) := by decide +kernel
theorem dX9_at_48 : decode cX9_at 48 = .ok (.iload_n 1, 1) := by decide +kernel
theorem dX9_at_49 : decode cX9_at 49 = .ok (.invokevirtual 83, 3) := by decide +kernel
theorem dX9_at_52 : decode cX9_at 52 = .ok (.ireturn, 1) := by decide +kernel
theorem dX9_at_53 : decode cX9_at 53 = .ok (.aload_n 0, 1) := by decide +kernel
theorem dX9_at_54 : decode cX9_at 54 = .ok (.getfield 10, 3) := by decide +kernel
theorem dX9_at_57 : decode cX9_at 57 = .ok (.iload_n 1, 1) := by decide +kernel
theorem dX9_at_58 : decode cX9_at 58 = .ok (.invokestatic 120, 3) := by decide +kernel
theorem dX9_at_61 : decode cX9_at 61 = .ok (.ireturn, 1) := by decide +kernel
theorem dX9_at_62 : decode cX9_at 62 = .ok (.aload_n 0, 1) := by decide +kernel
theorem dX9_at_63 : decode cX9_at 63 = .ok (.getfield 10, 3) := by decide +kernel
theorem dX9_at_66 : decode cX9_at 66 = .ok (.iload_n 1, 1) := by decide +kernel
theorem dX9_at_67 : decode cX9_at 67 = .ok (.invokestatic 126, 3) := by decide +kernel
theorem dX9_at_70 : decode cX9_at 70 = .ok (.ireturn, 1) := by decide +kernel
theorem dX9_at_71 : decode cX9_at 71 = .ok (.aload_n 0, 1) := by decide +kernel
theorem dX9_at_72 : decode cX9_at 72 = .ok (.getfield 10, 3) := by decide +kernel
theorem dX9_at_75 : decode cX9_at 75 = .ok (.iload_n 1, 1) := by decide +kernel
theorem dX9_at_76 : decode cX9_at 76 = .ok (.iconst 1, 1) := by decide +kernel
theorem dX9_at_77 : decode cX9_at 77 = .ok (.iadd, 1) := by decide +kernel
theorem dX9_at_78 : decode cX9_at 78 = .ok (.invokestatic 131, 3) := by decide +kernel
theorem dX9_at_81 : decode cX9_at 81 = .ok (.ireturn, 1) := by decide +kernel
theorem dX9_at_82 : decode cX9_at 82 = .ok (.bipush (-2), 2) := by decide +kernel
theorem dX9_at_84 : decode cX9_at 84 = .ok (.ireturn, 1) := by decide +kernel
set_option maxRecDepth 20000 in
theorem ggX9_border_X8_length : GoodIn wsX9_border wsX8_length := goodIn_r _ [6, 7, 27, 28] (by decide +kernel) (by decide +kernel)
set_option maxRecDepth 20000 in
theorem gX9_border_X8_length : GoodIn wsX9_border (wsV RX9 63 RX8 yX8_length wsX8_length) := goodIn_app (goodIn_of _ (by decide +kernel)) ggX9_border_X8_length
set_option maxRecDepth 20000 in
theorem ggX9_border_X2_rankedBorder : GoodIn wsX9_border wsX2_rankedBorder := goodIn_r _ [11, 12, 13, 10, 14, 15, 16, 17, 5, 18, 7, 19, 27, 28] (by decide +kernel) (by decide +kernel)
set_option maxRecDepth 20000 in
theorem gX9_border_X2_rankedBorder : GoodIn wsX9_border (va_wsS RX9 136 yX2_rankedBorder wsX2_rankedBorder) := goodIn_app (goodIn_of _ (by decide +kernel)) ggX9_border_X2_rankedBorder
theorem dX9_border_0 : decode cX9_border 0 = .ok (.iload_n 1, 1) := by decide +kernel
theorem dX9_border_1 : decode cX9_border 1 = .ok (.iconst 1, 1) := by decide +kernel
theorem dX9_border_2 : decode cX9_border 2 = .ok (.if_icmp .lt 14, 3) := by decide +kernel
theorem dX9_border_5 : decode cX9_border 5 = .ok (.iload_n 1, 1) := by decide +kernel
theorem dX9_border_6 : decode cX9_border 6 = .ok (.aload_n 0, 1) := by decide +kernel
theorem dX9_border_7 : decode cX9_border 7 = .ok (.getfield 10, 3) := by decide +kernel
theorem dX9_border_10 : decode cX9_border 10 = .ok (.invokevirtual 63, 3) := by decide +kernel
theorem dX9_border_13 : decode cX9_border 13 = .ok (.if_icmp .le 5, 3) := by decide +kernel
theorem dX9_border_16 : decode cX9_border 16 = .ok (.iconst (-1), 1) := by decide +kernel
theorem dX9_border_17 : decode cX9_border 17 = .ok (.ireturn, 1) := by decide +kernel
theorem dX9_border_18 : decode cX9_border 18 = .ok (.iload_n 2, 1) := by decide +kernel
theorem dX9_border_19 : decode cX9_border 19 = .ok (.ifCond .ge 6, 3) := by decide +kernel
theorem dX9_border_22 : decode cX9_border 22 = .ok (.bipush (-2), 2) := by decide +kernel
theorem dX9_border_24 : decode cX9_border 24 = .ok (.ireturn, 1) := by decide +kernel
theorem dX9_border_25 : decode cX9_border 25 = .ok (.aload_n 0, 1) := by decide +kernel
theorem dX9_border_26 : decode cX9_border 26 = .ok (.getfield 10, 3) := by decide +kernel
theorem dX9_border_29 : decode cX9_border 29 = .ok (.iload_n 1, 1) := by decide +kernel
theorem dX9_border_30 : decode cX9_border 30 = .ok (.iload_n 2, 1) := by decide +kernel
theorem dX9_border_31 : decode cX9_border 31 = .ok (.invokestatic 136, 3) := by decide +kernel
theorem dX9_border_34 : decode cX9_border 34 = .ok (.ireturn, 1) := by decide +kernel
set_option maxRecDepth 20000 in
theorem ggX9_factor_X8_isFactor : GoodIn wsX9_factor wsX8_isFactor := goodIn_r _ [6, 7, 74, 75] (by decide +kernel) (by decide +kernel)
set_option maxRecDepth 20000 in
theorem gX9_factor_X8_isFactor : GoodIn wsX9_factor (wsV RX9 94 RX8 yX8_isFactor wsX8_isFactor) := goodIn_app (goodIn_of _ (by decide +kernel)) ggX9_factor_X8_isFactor
set_option maxRecDepth 20000 in
theorem ggX9_factor_X0_howMany : GoodIn wsX9_factor wsX0_howMany := goodIn_r _ [11, 12, 13, 14, 5, 15, 7, 16, 17, 18, 19, 20, 21, 22, 23, 24, 25, 26, 27, 28, 74, 75] (by decide +kernel) (by decide +kernel)
set_option maxRecDepth 20000 in
theorem gX9_factor_X0_howMany : GoodIn wsX9_factor (va_wsS RX9 139 yX0_howMany wsX0_howMany) := goodIn_app (goodIn_of _ (by decide +kernel)) ggX9_factor_X0_howMany
set_option maxRecDepth 20000 in
theorem ggX9_factor_X0_first : GoodIn wsX9_factor wsX0_first := goodIn_r _ [31, 16, 17, 18, 5, 19, 20, 21, 22, 23, 24, 25, 26, 27, 7, 28, 74, 75] (by decide +kernel) (by decide +kernel)
set_option maxRecDepth 20000 in
theorem gX9_factor_X0_first : GoodIn wsX9_factor (va_wsS RX9 144 yX0_first wsX0_first) := goodIn_app (goodIn_of _ (by decide +kernel)) ggX9_factor_X0_first
set_option maxRecDepth 20000 in
theorem ggX9_factor_X0_last : GoodIn wsX9_factor wsX0_last := goodIn_r _ [34, 12, 13, 14, 5, 15, 7, 16, 17, 18, 19, 20, 21, 22, 23, 24, 25, 26, 27, 28, 74, 75] (by decide +kernel) (by decide +kernel)
set_option maxRecDepth 20000 in
theorem gX9_factor_X0_last : GoodIn wsX9_factor (va_wsS RX9 147 yX0_last wsX0_last) := goodIn_app (goodIn_of _ (by decide +kernel)) ggX9_factor_X0_last
set_option maxRecDepth 20000 in
theorem ggX9_factor_X0_longestOfClass : GoodIn wsX9_factor wsX0_longestOfClass := goodIn_r _ [37, 38, 21, 22, 23, 12, 13, 14, 5, 15, 7, 16, 17, 18, 19, 20, 24, 25, 26, 27, 28, 74, 75] (by decide +kernel) (by decide +kernel)
set_option maxRecDepth 20000 in
theorem gX9_factor_X0_longestOfClass : GoodIn wsX9_factor (va_wsS RX9 150 yX0_longestOfClass wsX0_longestOfClass) := goodIn_app (goodIn_of _ (by decide +kernel)) ggX9_factor_X0_longestOfClass
set_option maxRecDepth 20000 in
theorem ggX9_factor_X0_shortestOfClass : GoodIn wsX9_factor wsX0_shortestOfClass := goodIn_r _ [41, 42, 43, 10, 44, 45, 46, 22, 47, 12, 13, 14, 5, 15, 7, 16, 17, 18, 19, 20, 21, 23, 24, 25, 26, 27, 28, 74, 75] (by decide +kernel) (by decide +kernel)
set_option maxRecDepth 20000 in
theorem gX9_factor_X0_shortestOfClass : GoodIn wsX9_factor (va_wsS RX9 153 yX0_shortestOfClass wsX0_shortestOfClass) := goodIn_app (goodIn_of _ (by decide +kernel)) ggX9_factor_X0_shortestOfClass
set_option maxRecDepth 20000 in
theorem ggX9_factor_X0_longestOfLink : GoodIn wsX9_factor wsX0_longestOfLink := goodIn_r _ [44, 45, 46, 22, 47, 12, 13, 14, 5, 15, 7, 16, 17, 18, 19, 20, 21, 23, 24, 25, 26, 27, 28, 74, 75] (by decide +kernel) (by decide +kernel)
set_option maxRecDepth 20000 in
theorem gX9_factor_X0_longestOfLink : GoodIn wsX9_factor (va_wsS RX9 156 yX0_longestOfLink wsX0_longestOfLink) := goodIn_app (goodIn_of _ (by decide +kernel)) ggX9_factor_X0_longestOfLink
set_option maxRecDepth 20000 in
theorem ggX9_factor_X2_least : GoodIn wsX9_factor wsX2_least := goodIn_r _ [52, 53, 54, 51, 55, 56, 25, 26, 5, 27, 7, 28, 74, 75] (by decide +kernel) (by decide +kernel)
set_option maxRecDepth 20000 in
theorem gX9_factor_X2_least : GoodIn wsX9_factor (va_wsS RX9 159 yX2_least wsX2_least) := goodIn_app (goodIn_of _ (by decide +kernel)) ggX9_factor_X2_least
set_option maxRecDepth 20000 in
theorem ggX9_factor_X2_longestBorder : GoodIn wsX9_factor wsX2_longestBorder := goodIn_r _ [59, 60, 50, 51, 52, 53, 54, 55, 56, 25, 26, 5, 27, 7, 28, 74, 75] (by decide +kernel) (by decide +kernel)
set_option maxRecDepth 20000 in
theorem gX9_factor_X2_longestBorder : GoodIn wsX9_factor (va_wsS RX9 67 yX2_longestBorder wsX2_longestBorder) := goodIn_app (goodIn_of _ (by decide +kernel)) ggX9_factor_X2_longestBorder
set_option maxRecDepth 20000 in
theorem ggX9_factor_X2_isPrimitive : GoodIn wsX9_factor wsX2_isPrimitive := goodIn_r _ [63, 60, 50, 51, 52, 53, 54, 55, 56, 25, 26, 5, 27, 7, 28, 74, 75] (by decide +kernel) (by decide +kernel)
set_option maxRecDepth 20000 in
theorem gX9_factor_X2_isPrimitive : GoodIn wsX9_factor (va_wsS RX9 162 yX2_isPrimitive wsX2_isPrimitive) := goodIn_app (goodIn_of _ (by decide +kernel)) ggX9_factor_X2_isPrimitive
set_option maxRecDepth 20000 in
theorem ggX9_factor_X2_hundredfoldPower : GoodIn wsX9_factor wsX2_hundredfoldPower := goodIn_r _ [66, 60, 50, 51, 52, 53, 54, 55, 56, 25, 26, 5, 27, 7, 28, 74, 75] (by decide +kernel) (by decide +kernel)
set_option maxRecDepth 20000 in
theorem gX9_factor_X2_hundredfoldPower : GoodIn wsX9_factor (va_wsS RX9 166 yX2_hundredfoldPower wsX2_hundredfoldPower) := goodIn_app (goodIn_of _ (by decide +kernel)) ggX9_factor_X2_hundredfoldPower
theorem dX9_factor_0 : decode cX9_factor 0 = .ok (.aload_n 0, 1) := by decide +kernel
theorem dX9_factor_1 : decode cX9_factor 1 = .ok (.getfield 10, 3) := by decide +kernel
theorem dX9_factor_4 : decode cX9_factor 4 = .ok (.iload_n 1, 1) := by decide +kernel
theorem dX9_factor_5 : decode cX9_factor 5 = .ok (.iload_n 2, 1) := by decide +kernel
theorem dX9_factor_6 : decode cX9_factor 6 = .ok (.invokevirtual 94, 3) := by decide +kernel
theorem dX9_factor_9 : decode cX9_factor 9 = .ok (.ifCond .ne 5, 3) := by decide +kernel
theorem dX9_factor_12 : decode cX9_factor 12 = .ok (.iconst (-1), 1) := by decide +kernel
theorem dX9_factor_13 : decode cX9_factor 13 = .ok (.ireturn, 1) := by decide +kernel
theorem dX9_factor_14 : decode cX9_factor 14 = .ok (.iload_n 2, 1) := by decide +kernel
theorem dX9_factor_15 : decode cX9_factor 15 = .ok (.iload_n 1, 1) := by decide +kernel
theorem dX9_factor_16 : decode cX9_factor 16 = .ok (.isub, 1) := by decide +kernel
theorem dX9_factor_17 : decode cX9_factor 17 = .ok (.istore 4, 2) := by decide +kernel
theorem dX9_factor_19 : decode cX9_factor 19 = .ok (.iload_n 3, 1) := by decide +kernel
theorem dX9_factor_20 : decode cX9_factor 20 = .ok (.tableswitch 170 0 9 #[56, 67, 78, 89, 100, 111, 122, 132, 142, 160], 56) := by decide +kernel
theorem dX9_factor_76 : decode cX9_factor 76 = .ok (.aload_n 0, 1) := by decide +kernel
theorem dX9_factor_77 : decode cX9_factor 77 = .ok (.getfield 10, 3) := by decide +kernel
theorem dX9_factor_80 : decode cX9_factor 80 = .ok (.iload_n 2, 1) := by decide +kernel
theorem dX9_factor_81 : decode cX9_factor 81 = .ok (.iload 4, 2) := by decide +kernel
theorem dX9_factor_83 : decode cX9_factor 83 = .ok (.invokestatic 139, 3) := by decide +kernel
theorem dX9_factor_86 : decode cX9_factor 86 = .ok (.ireturn, 1) := by decide +kernel
theorem dX9_factor_87 : decode cX9_factor 87 = .ok (.aload_n 0, 1) := by decide +kernel
theorem dX9_factor_88 : decode cX9_factor 88 = .ok (.getfield 10, 3) := by decide +kernel
theorem dX9_factor_91 : decode cX9_factor 91 = .ok (.iload_n 2, 1) := by decide +kernel
theorem dX9_factor_92 : decode cX9_factor 92 = .ok (.iload 4, 2) := by decide +kernel
theorem dX9_factor_94 : decode cX9_factor 94 = .ok (.invokestatic 144, 3) := by decide +kernel
theorem dX9_factor_97 : decode cX9_factor 97 = .ok (.ireturn, 1) := by decide +kernel
theorem dX9_factor_98 : decode cX9_factor 98 = .ok (.aload_n 0, 1) := by decide +kernel
theorem dX9_factor_99 : decode cX9_factor 99 = .ok (.getfield 10, 3) := by decide +kernel
theorem dX9_factor_102 : decode cX9_factor 102 = .ok (.iload_n 2, 1) := by decide +kernel
theorem dX9_factor_103 : decode cX9_factor 103 = .ok (.iload 4, 2) := by decide +kernel
theorem dX9_factor_105 : decode cX9_factor 105 = .ok (.invokestatic 147, 3) := by decide +kernel
theorem dX9_factor_108 : decode cX9_factor 108 = .ok (.ireturn, 1) := by decide +kernel
theorem dX9_factor_109 : decode cX9_factor 109 = .ok (.aload_n 0, 1) := by decide +kernel
theorem dX9_factor_110 : decode cX9_factor 110 = .ok (.getfield 10, 3) := by decide +kernel
theorem dX9_factor_113 : decode cX9_factor 113 = .ok (.iload_n 2, 1) := by decide +kernel
theorem dX9_factor_114 : decode cX9_factor 114 = .ok (.iload 4, 2) := by decide +kernel
theorem dX9_factor_116 : decode cX9_factor 116 = .ok (.invokestatic 150, 3) := by decide +kernel
theorem dX9_factor_119 : decode cX9_factor 119 = .ok (.ireturn, 1) := by decide +kernel
theorem dX9_factor_120 : decode cX9_factor 120 = .ok (.aload_n 0, 1) := by decide +kernel
theorem dX9_factor_121 : decode cX9_factor 121 = .ok (.getfield 10, 3) := by decide +kernel
theorem dX9_factor_124 : decode cX9_factor 124 = .ok (.iload_n 2, 1) := by decide +kernel
theorem dX9_factor_125 : decode cX9_factor 125 = .ok (.iload 4, 2) := by decide +kernel
theorem dX9_factor_127 : decode cX9_factor 127 = .ok (.invokestatic 153, 3) := by decide +kernel
theorem dX9_factor_130 : decode cX9_factor 130 = .ok (.ireturn, 1) := by decide +kernel
theorem dX9_factor_131 : decode cX9_factor 131 = .ok (.aload_n 0, 1) := by decide +kernel
theorem dX9_factor_132 : decode cX9_factor 132 = .ok (.getfield 10, 3) := by decide +kernel
theorem dX9_factor_135 : decode cX9_factor 135 = .ok (.iload_n 2, 1) := by decide +kernel
theorem dX9_factor_136 : decode cX9_factor 136 = .ok (.iload 4, 2) := by decide +kernel
theorem dX9_factor_138 : decode cX9_factor 138 = .ok (.invokestatic 156, 3) := by decide +kernel
theorem dX9_factor_141 : decode cX9_factor 141 = .ok (.ireturn, 1) := by decide +kernel
theorem dX9_factor_142 : decode cX9_factor 142 = .ok (.aload_n 0, 1) := by decide +kernel
theorem dX9_factor_143 : decode cX9_factor 143 = .ok (.getfield 10, 3) := by decide +kernel
theorem dX9_factor_146 : decode cX9_factor 146 = .ok (.iload_n 1, 1) := by decide +kernel
theorem dX9_factor_147 : decode cX9_factor 147 = .ok (.iload_n 2, 1) := by decide +kernel
theorem dX9_factor_148 : decode cX9_factor 148 = .ok (.invokestatic 159, 3) := by decide +kernel
theorem dX9_factor_151 : decode cX9_factor 151 = .ok (.ireturn, 1) := by decide +kernel
theorem dX9_factor_152 : decode cX9_factor 152 = .ok (.aload_n 0, 1) := by decide +kernel
theorem dX9_factor_153 : decode cX9_factor 153 = .ok (.getfield 10, 3) := by decide +kernel
theorem dX9_factor_156 : decode cX9_factor 156 = .ok (.iload_n 1, 1) := by decide +kernel
theorem dX9_factor_157 : decode cX9_factor 157 = .ok (.iload_n 2, 1) := by decide +kernel
theorem dX9_factor_158 : decode cX9_factor 158 = .ok (.invokestatic 67, 3) := by decide +kernel
theorem dX9_factor_161 : decode cX9_factor 161 = .ok (.ireturn, 1) := by decide +kernel
theorem dX9_factor_162 : decode cX9_factor 162 = .ok (.aload_n 0, 1) := by decide +kernel
theorem dX9_factor_163 : decode cX9_factor 163 = .ok (.getfield 10, 3) := by decide +kernel
theorem dX9_factor_166 : decode cX9_factor 166 = .ok (.iload_n 1, 1) := by decide +kernel
theorem dX9_factor_167 : decode cX9_factor 167 = .ok (.iload_n 2, 1) := by decide +kernel
theorem dX9_factor_168 : decode cX9_factor 168 = .ok (.invokestatic 162, 3) := by decide +kernel
theorem dX9_factor_171 : decode cX9_factor 171 = .ok (.ifCond .eq 7, 3) := by decide +kernel
theorem dX9_factor_174 : decode cX9_factor 174 = .ok (.iconst 1, 1) := by decide +kernel
theorem dX9_factor_175 : decode cX9_factor 175 = .ok (.goto 4, 3) := by decide +kernel
theorem dX9_factor_178 : decode cX9_factor 178 = .ok (.iconst 0, 1) := by decide +kernel
theorem dX9_factor_179 : decode cX9_factor 179 = .ok (.ireturn, 1) := by decide +kernel
theorem dX9_factor_180 : decode cX9_factor 180 = .ok (.aload_n 0, 1) := by decide +kernel
theorem dX9_factor_181 : decode cX9_factor 181 = .ok (.getfield 10, 3) := by decide +kernel
theorem dX9_factor_184 : decode cX9_factor 184 = .ok (.iload_n 1, 1) := by decide +kernel
theorem dX9_factor_185 : decode cX9_factor 185 = .ok (.iload_n 2, 1) := by decide +kernel
theorem dX9_factor_186 : decode cX9_factor 186 = .ok (.invokestatic 166, 3) := by decide +kernel
theorem dX9_factor_189 : decode cX9_factor 189 = .ok (.ireturn, 1) := by decide +kernel
theorem dX9_factor_190 : decode cX9_factor 190 = .ok (.bipush (-2), 2) := by decide +kernel
theorem dX9_factor_192 : decode cX9_factor 192 = .ok (.ireturn, 1) := by decide +kernel
set_option maxRecDepth 20000 in
theorem ggX9_alike_X8_isPlace : GoodIn wsX9_alike wsX8_isPlace := goodIn_r _ [6, 7, 28, 29] (by decide +kernel) (by decide +kernel)
set_option maxRecDepth 20000 in
theorem gX9_alike_X8_isPlace : GoodIn wsX9_alike (wsV RX9 80 RX8 yX8_isPlace wsX8_isPlace) := goodIn_app (goodIn_of _ (by decide +kernel)) ggX9_alike_X8_isPlace
set_option maxRecDepth 20000 in
theorem ggX9_alike_X8_alikeFrom : GoodIn wsX9_alike wsX8_alikeFrom := goodIn_r _ [11, 7, 12, 13, 14, 15, 16, 17, 18, 5, 19, 20, 28, 29] (by decide +kernel) (by decide +kernel)
set_option maxRecDepth 20000 in
theorem gX9_alike_X8_alikeFrom : GoodIn wsX9_alike (wsV RX9 169 RX8 yX8_alikeFrom wsX8_alikeFrom) := goodIn_app (goodIn_of _ (by decide +kernel)) ggX9_alike_X8_alikeFrom
theorem dX9_alike_0 : decode cX9_alike 0 = .ok (.aload_n 0, 1) := by decide +kernel
theorem dX9_alike_1 : decode cX9_alike 1 = .ok (.getfield 10, 3) := by decide +kernel
theorem dX9_alike_4 : decode cX9_alike 4 = .ok (.iload_n 1, 1) := by decide +kernel
theorem dX9_alike_5 : decode cX9_alike 5 = .ok (.invokevirtual 80, 3) := by decide +kernel
theorem dX9_alike_8 : decode cX9_alike 8 = .ok (.ifCond .eq 14, 3) := by decide +kernel
theorem dX9_alike_11 : decode cX9_alike 11 = .ok (.aload_n 0, 1) := by decide +kernel
theorem dX9_alike_12 : decode cX9_alike 12 = .ok (.getfield 10, 3) := by decide +kernel
theorem dX9_alike_15 : decode cX9_alike 15 = .ok (.iload_n 2, 1) := by decide +kernel
theorem dX9_alike_16 : decode cX9_alike 16 = .ok (.invokevirtual 80, 3) := by decide +kernel
theorem dX9_alike_19 : decode cX9_alike 19 = .ok (.ifCond .ne 5, 3) := by decide +kernel
theorem dX9_alike_22 : decode cX9_alike 22 = .ok (.iconst (-1), 1) := by decide +kernel
theorem dX9_alike_23 : decode cX9_alike 23 = .ok (.ireturn, 1) := by decide +kernel
theorem dX9_alike_24 : decode cX9_alike 24 = .ok (.aload_n 0, 1) := by decide +kernel
theorem dX9_alike_25 : decode cX9_alike 25 = .ok (.getfield 10, 3) := by decide +kernel
theorem dX9_alike_28 : decode cX9_alike 28 = .ok (.iload_n 1, 1) := by decide +kernel
theorem dX9_alike_29 : decode cX9_alike 29 = .ok (.iload_n 2, 1) := by decide +kernel
theorem dX9_alike_30 : decode cX9_alike 30 = .ok (.invokevirtual 169, 3) := by decide +kernel
theorem dX9_alike_33 : decode cX9_alike 33 = .ok (.ireturn, 1) := by decide +kernel
set_option maxRecDepth 20000 in
theorem ggX9_suffix_X6_placeOf : GoodIn wsX9_suffix wsX6_placeOf := goodIn_r _ [5, 6, 7, 8, 9, 10, 11, 12, 13, 4, 14, 15, 16, 17, 18, 19, 20, 21, 22, 23, 24, 25, 26, 27, 28, 29, 30, 31, 39, 40] (by decide +kernel) (by decide +kernel)
set_option maxRecDepth 20000 in
theorem gX9_suffix_X6_placeOf : GoodIn wsX9_suffix (va_wsS RX9 173 yX6_placeOf wsX6_placeOf) := goodIn_app (goodIn_of _ (by decide +kernel)) ggX9_suffix_X6_placeOf
theorem dX9_suffix_0 : decode cX9_suffix 0 = .ok (.iload_n 1, 1) := by decide +kernel
theorem dX9_suffix_1 : decode cX9_suffix 1 = .ok (.ifCond .ge 6, 3) := by decide +kernel
theorem dX9_suffix_4 : decode cX9_suffix 4 = .ok (.bipush (-2), 2) := by decide +kernel
theorem dX9_suffix_6 : decode cX9_suffix 6 = .ok (.ireturn, 1) := by decide +kernel
theorem dX9_suffix_7 : decode cX9_suffix 7 = .ok (.aload_n 0, 1) := by decide +kernel
theorem dX9_suffix_8 : decode cX9_suffix 8 = .ok (.getfield 10, 3) := by decide +kernel
theorem dX9_suffix_11 : decode cX9_suffix 11 = .ok (.iload_n 1, 1) := by decide +kernel
theorem dX9_suffix_12 : decode cX9_suffix 12 = .ok (.invokestatic 173, 3) := by decide +kernel
theorem dX9_suffix_15 : decode cX9_suffix 15 = .ok (.ireturn, 1) := by decide +kernel
set_option maxRecDepth 20000 in
theorem ggX9_square_X5_ranked : GoodIn wsX9_square wsX5_ranked := goodIn_r _ [5, 6, 7, 8, 9, 10, 11, 12, 13, 4, 14, 15, 16, 17, 18, 19, 20, 21, 22, 23, 24, 25, 26, 27, 35, 36] (by decide +kernel) (by decide +kernel)
set_option maxRecDepth 20000 in
theorem gX9_square_X5_ranked : GoodIn wsX9_square (va_wsS RX9 176 yX5_ranked wsX5_ranked) := goodIn_app (goodIn_of _ (by decide +kernel)) ggX9_square_X5_ranked
theorem dX9_square_0 : decode cX9_square 0 = .ok (.iload_n 1, 1) := by decide +kernel
theorem dX9_square_1 : decode cX9_square 1 = .ok (.ifCond .lt 12, 3) := by decide +kernel
theorem dX9_square_4 : decode cX9_square 4 = .ok (.iload_n 2, 1) := by decide +kernel
theorem dX9_square_5 : decode cX9_square 5 = .ok (.ifCond .lt 8, 3) := by decide +kernel
theorem dX9_square_8 : decode cX9_square 8 = .ok (.iload_n 2, 1) := by decide +kernel
theorem dX9_square_9 : decode cX9_square 9 = .ok (.iconst 1, 1) := by decide +kernel
theorem dX9_square_10 : decode cX9_square 10 = .ok (.if_icmp .le 6, 3) := by decide +kernel
theorem dX9_square_13 : decode cX9_square 13 = .ok (.bipush (-2), 2) := by decide +kernel
theorem dX9_square_15 : decode cX9_square 15 = .ok (.ireturn, 1) := by decide +kernel
theorem dX9_square_16 : decode cX9_square 16 = .ok (.aload_n 0, 1) := by decide +kernel
theorem dX9_square_17 : decode cX9_square 17 = .ok (.getfield 10, 3) := by decide +kernel
theorem dX9_square_20 : decode cX9_square 20 = .ok (.iload_n 1, 1) := by decide +kernel
theorem dX9_square_21 : decode cX9_square 21 = .ok (.iload_n 2, 1) := by decide +kernel
theorem dX9_square_22 : decode cX9_square 22 = .ok (.invokestatic 176, 3) := by decide +kernel
theorem dX9_square_25 : decode cX9_square 25 = .ok (.ireturn, 1) := by decide +kernel
set_option maxRecDepth 20000 in
theorem ggX9_run_X4_ranked : GoodIn wsX9_run wsX4_ranked := goodIn_r _ [5, 6, 7, 8, 9, 10, 11, 12, 13, 4, 14, 15, 16, 17, 18, 19, 20, 21, 22, 23, 24, 25, 26, 27, 28, 29, 30, 31, 32, 33, 34, 35, 36, 37, 38, 39, 40, 41, 42, 50, 51] (by decide +kernel) (by decide +kernel)
set_option maxRecDepth 20000 in
theorem gX9_run_X4_ranked : GoodIn wsX9_run (va_wsS RX9 179 yX4_ranked wsX4_ranked) := goodIn_app (goodIn_of _ (by decide +kernel)) ggX9_run_X4_ranked
theorem dX9_run_0 : decode cX9_run 0 = .ok (.iload_n 1, 1) := by decide +kernel
theorem dX9_run_1 : decode cX9_run 1 = .ok (.ifCond .lt 12, 3) := by decide +kernel
theorem dX9_run_4 : decode cX9_run 4 = .ok (.iload_n 2, 1) := by decide +kernel
theorem dX9_run_5 : decode cX9_run 5 = .ok (.ifCond .lt 8, 3) := by decide +kernel
theorem dX9_run_8 : decode cX9_run 8 = .ok (.iload_n 2, 1) := by decide +kernel
theorem dX9_run_9 : decode cX9_run 9 = .ok (.iconst 4, 1) := by decide +kernel
theorem dX9_run_10 : decode cX9_run 10 = .ok (.if_icmp .le 6, 3) := by decide +kernel
theorem dX9_run_13 : decode cX9_run 13 = .ok (.bipush (-2), 2) := by decide +kernel
theorem dX9_run_15 : decode cX9_run 15 = .ok (.ireturn, 1) := by decide +kernel
theorem dX9_run_16 : decode cX9_run 16 = .ok (.aload_n 0, 1) := by decide +kernel
theorem dX9_run_17 : decode cX9_run 17 = .ok (.getfield 10, 3) := by decide +kernel
theorem dX9_run_20 : decode cX9_run 20 = .ok (.iload_n 1, 1) := by decide +kernel
theorem dX9_run_21 : decode cX9_run 21 = .ok (.iload_n 2, 1) := by decide +kernel
theorem dX9_run_22 : decode cX9_run 22 = .ok (.invokestatic 179, 3) := by decide +kernel
theorem dX9_run_25 : decode cX9_run 25 = .ok (.ireturn, 1) := by decide +kernel
set_option maxRecDepth 20000 in
theorem ggX9_unlike_X8_length : GoodIn wsX9_unlike wsX8_length := goodIn_r _ [6, 7, 41, 42] (by decide +kernel) (by decide +kernel)
set_option maxRecDepth 20000 in
theorem gX9_unlike_X8_length : GoodIn wsX9_unlike (wsV RX9 63 RX8 yX8_length wsX8_length) := goodIn_app (goodIn_of _ (by decide +kernel)) ggX9_unlike_X8_length
set_option maxRecDepth 20000 in
theorem ggX9_unlike_X0_unlikeFactors : GoodIn wsX9_unlike wsX0_unlikeFactors := goodIn_r _ [11, 12, 13, 10, 14, 15, 16, 17, 18, 19, 20, 21, 22, 23, 24, 5, 25, 26, 27, 28, 29, 30, 31, 32, 7, 33, 41, 42] (by decide +kernel) (by decide +kernel)
set_option maxRecDepth 20000 in
theorem gX9_unlike_X0_unlikeFactors : GoodIn wsX9_unlike (va_wsS RX9 180 yX0_unlikeFactors wsX0_unlikeFactors) := goodIn_app (goodIn_of _ (by decide +kernel)) ggX9_unlike_X0_unlikeFactors
theorem dX9_unlike_0 : decode cX9_unlike 0 = .ok (.iload_n 1, 1) := by decide +kernel
theorem dX9_unlike_1 : decode cX9_unlike 1 = .ok (.ifCond .lt 14, 3) := by decide +kernel
theorem dX9_unlike_4 : decode cX9_unlike 4 = .ok (.iload_n 1, 1) := by decide +kernel
theorem dX9_unlike_5 : decode cX9_unlike 5 = .ok (.aload_n 0, 1) := by decide +kernel
theorem dX9_unlike_6 : decode cX9_unlike 6 = .ok (.getfield 10, 3) := by decide +kernel
theorem dX9_unlike_9 : decode cX9_unlike 9 = .ok (.invokevirtual 63, 3) := by decide +kernel
theorem dX9_unlike_12 : decode cX9_unlike 12 = .ok (.if_icmp .le 5, 3) := by decide +kernel
theorem dX9_unlike_15 : decode cX9_unlike 15 = .ok (.iconst (-1), 1) := by decide +kernel
theorem dX9_unlike_16 : decode cX9_unlike 16 = .ok (.ireturn, 1) := by decide +kernel
theorem dX9_unlike_17 : decode cX9_unlike 17 = .ok (.aload_n 0, 1) := by decide +kernel
theorem dX9_unlike_18 : decode cX9_unlike 18 = .ok (.getfield 10, 3) := by decide +kernel
theorem dX9_unlike_21 : decode cX9_unlike 21 = .ok (.iload_n 1, 1) := by decide +kernel
theorem dX9_unlike_22 : decode cX9_unlike 22 = .ok (.invokestatic 180, 3) := by decide +kernel
theorem dX9_unlike_25 : decode cX9_unlike 25 = .ok (.ireturn, 1) := by decide +kernel
set_option maxRecDepth 20000 in
theorem ggX9_ifLetter_X9_isLetter : GoodIn wsX9_ifLetter wsX9_isLetter := goodIn_r _ [5] (by decide +kernel) (by decide +kernel)
set_option maxRecDepth 20000 in
theorem gX9_ifLetter_X9_isLetter : GoodIn wsX9_ifLetter (va_wsS RX9 47 yX9_isLetter wsX9_isLetter) := goodIn_app (goodIn_of _ (by decide +kernel)) ggX9_ifLetter_X9_isLetter
set_option maxRecDepth 20000 in
theorem ggX9_ifLetter_X9_isBrought : GoodIn wsX9_ifLetter wsX9_isBrought := goodIn_r _ [8] (by decide +kernel) (by decide +kernel)
set_option maxRecDepth 20000 in
theorem gX9_ifLetter_X9_isBrought : GoodIn wsX9_ifLetter (va_wsS RX9 183 yX9_isBrought wsX9_isBrought) := goodIn_app (goodIn_of _ (by decide +kernel)) ggX9_ifLetter_X9_isBrought
set_option maxRecDepth 20000 in
theorem ggX9_ifLetter_X8_isFull : GoodIn wsX9_ifLetter wsX8_isFull := goodIn_r _ [13, 14, 110, 111] (by decide +kernel) (by decide +kernel)
set_option maxRecDepth 20000 in
theorem gX9_ifLetter_X8_isFull : GoodIn wsX9_ifLetter (wsV RX9 51 RX8 yX8_isFull wsX8_isFull) := goodIn_app (goodIn_of _ (by decide +kernel)) ggX9_ifLetter_X8_isFull
set_option maxRecDepth 20000 in
theorem ggX9_ifLetter_X9_broughtBy : GoodIn wsX9_ifLetter wsX9_broughtBy := goodIn_r _ [18, 19, 20, 21, 22, 4, 23, 1, 24, 25, 26, 12, 27, 28, 29, 30, 31, 14, 32, 33, 34, 35, 36, 37, 38, 39, 40, 41, 42, 43, 44, 45, 46, 47, 48, 49, 50, 51, 52, 53, 54, 55, 56, 57, 58, 59, 60, 61, 62, 63, 64, 65, 66, 67, 68, 69, 70, 71, 72, 73, 74, 75, 76, 77, 78, 79, 80, 81, 82, 83, 84, 85, 86, 87, 88, 89, 90, 91, 92, 93, 94, 95, 96, 97, 98, 99, 100, 101, 102, 103, 104, 105, 106, 107, 108, 109, 110, 111] (by decide +kernel) (by decide +kernel)
set_option maxRecDepth 20000 in
theorem gX9_ifLetter_X9_broughtBy : GoodIn wsX9_ifLetter (wsV RX9 186 RX9 yX9_broughtBy wsX9_broughtBy) := goodIn_app (goodIn_of _ (by decide +kernel)) ggX9_ifLetter_X9_broughtBy
theorem dX9_ifLetter_0 : decode cX9_ifLetter 0 = .ok (.iload_n 1, 1) := by decide +kernel
theorem dX9_ifLetter_1 : decode cX9_ifLetter 1 = .ok (.invokestatic 47, 3) := by decide +kernel
theorem dX9_ifLetter_4 : decode cX9_ifLetter 4 = .ok (.ifCond .eq 10, 3) := by decide +kernel
theorem dX9_ifLetter_7 : decode cX9_ifLetter 7 = .ok (.iload_n 2, 1) := by decide +kernel
theorem dX9_ifLetter_8 : decode cX9_ifLetter 8 = .ok (.invokestatic 183, 3) := by decide +kernel
theorem dX9_ifLetter_11 : decode cX9_ifLetter 11 = .ok (.ifCond .ne 6, 3) := by decide +kernel
theorem dX9_ifLetter_14 : decode cX9_ifLetter 14 = .ok (.bipush (-2), 2) := by decide +kernel
theorem dX9_ifLetter_16 : decode cX9_ifLetter 16 = .ok (.ireturn, 1) := by decide +kernel
theorem dX9_ifLetter_17 : decode cX9_ifLetter 17 = .ok (.aload_n 0, 1) := by decide +kernel
theorem dX9_ifLetter_18 : decode cX9_ifLetter 18 = .ok (.getfield 10, 3) := by decide +kernel
theorem dX9_ifLetter_21 : decode cX9_ifLetter 21 = .ok (.invokevirtual 51, 3) := by decide +kernel
theorem dX9_ifLetter_24 : decode cX9_ifLetter 24 = .ok (.ifCond .eq 6, 3) := by decide +kernel
theorem dX9_ifLetter_27 : decode cX9_ifLetter 27 = .ok (.bipush (-3), 2) := by decide +kernel
theorem dX9_ifLetter_29 : decode cX9_ifLetter 29 = .ok (.ireturn, 1) := by decide +kernel
theorem dX9_ifLetter_30 : decode cX9_ifLetter 30 = .ok (.aload_n 0, 1) := by decide +kernel
theorem dX9_ifLetter_31 : decode cX9_ifLetter 31 = .ok (.iload_n 1, 1) := by decide +kernel
theorem dX9_ifLetter_32 : decode cX9_ifLetter 32 = .ok (.iload_n 2, 1) := by decide +kernel
theorem dX9_ifLetter_33 : decode cX9_ifLetter 33 = .ok (.invokevirtual 186, 3) := by decide +kernel
theorem dX9_ifLetter_36 : decode cX9_ifLetter 36 = .ok (.ireturn, 1) := by decide +kernel
set_option maxRecDepth 20000 in
theorem ggX9_bestLetter_X9_isBrought : GoodIn wsX9_bestLetter wsX9_isBrought := goodIn_r _ [5] (by decide +kernel) (by decide +kernel)
set_option maxRecDepth 20000 in
theorem gX9_bestLetter_X9_isBrought : GoodIn wsX9_bestLetter (va_wsS RX9 183 yX9_isBrought wsX9_isBrought) := goodIn_app (goodIn_of _ (by decide +kernel)) ggX9_bestLetter_X9_isBrought
set_option maxRecDepth 20000 in
theorem ggX9_bestLetter_X8_isFull : GoodIn wsX9_bestLetter wsX8_isFull := goodIn_r _ [10, 11, 107, 108] (by decide +kernel) (by decide +kernel)
set_option maxRecDepth 20000 in
theorem gX9_bestLetter_X8_isFull : GoodIn wsX9_bestLetter (wsV RX9 51 RX8 yX8_isFull wsX8_isFull) := goodIn_app (goodIn_of _ (by decide +kernel)) ggX9_bestLetter_X8_isFull
set_option maxRecDepth 20000 in
theorem ggX9_bestLetter_X9_broughtBy : GoodIn wsX9_bestLetter wsX9_broughtBy := goodIn_r _ [15, 16, 17, 18, 19, 4, 20, 1, 21, 22, 23, 9, 24, 25, 26, 27, 28, 11, 29, 30, 31, 32, 33, 34, 35, 36, 37, 38, 39, 40, 41, 42, 43, 44, 45, 46, 47, 48, 49, 50, 51, 52, 53, 54, 55, 56, 57, 58, 59, 60, 61, 62, 63, 64, 65, 66, 67, 68, 69, 70, 71, 72, 73, 74, 75, 76, 77, 78, 79, 80, 81, 82, 83, 84, 85, 86, 87, 88, 89, 90, 91, 92, 93, 94, 95, 96, 97, 98, 99, 100, 101, 102, 103, 104, 105, 106, 107, 108] (by decide +kernel) (by decide +kernel)
set_option maxRecDepth 20000 in
theorem gX9_bestLetter_X9_broughtBy : GoodIn wsX9_bestLetter (wsV RX9 186 RX9 yX9_broughtBy wsX9_broughtBy) := goodIn_app (goodIn_of _ (by decide +kernel)) ggX9_bestLetter_X9_broughtBy
theorem dX9_bestLetter_0 : decode cX9_bestLetter 0 = .ok (.iload_n 1, 1) := by decide +kernel
theorem dX9_bestLetter_1 : decode cX9_bestLetter 1 = .ok (.invokestatic 183, 3) := by decide +kernel
theorem dX9_bestLetter_4 : decode cX9_bestLetter 4 = .ok (.ifCond .ne 6, 3) := by decide +kernel
theorem dX9_bestLetter_7 : decode cX9_bestLetter 7 = .ok (.bipush (-2), 2) := by decide +kernel
theorem dX9_bestLetter_9 : decode cX9_bestLetter 9 = .ok (.ireturn, 1) := by decide +kernel
theorem dX9_bestLetter_10 : decode cX9_bestLetter 10 = .ok (.aload_n 0, 1) := by decide +kernel
theorem dX9_bestLetter_11 : decode cX9_bestLetter 11 = .ok (.getfield 10, 3) := by decide +kernel
theorem dX9_bestLetter_14 : decode cX9_bestLetter 14 = .ok (.invokevirtual 51, 3) := by decide +kernel
theorem dX9_bestLetter_17 : decode cX9_bestLetter 17 = .ok (.ifCond .eq 6, 3) := by decide +kernel
theorem dX9_bestLetter_20 : decode cX9_bestLetter 20 = .ok (.bipush (-3), 2) := by decide +kernel
theorem dX9_bestLetter_22 : decode cX9_bestLetter 22 = .ok (.ireturn, 1) := by decide +kernel
theorem dX9_bestLetter_23 : decode cX9_bestLetter 23 = .ok (.iconst 0, 1) := by decide +kernel
theorem dX9_bestLetter_24 : decode cX9_bestLetter 24 = .ok (.istore_n 2, 1) := by decide +kernel
theorem dX9_bestLetter_25 : decode cX9_bestLetter 25 = .ok (.aload_n 0, 1) := by decide +kernel
theorem dX9_bestLetter_26 : decode cX9_bestLetter 26 = .ok (.iload_n 2, 1) := by decide +kernel
theorem dX9_bestLetter_27 : decode cX9_bestLetter 27 = .ok (.iload_n 1, 1) := by decide +kernel
theorem dX9_bestLetter_28 : decode cX9_bestLetter 28 = .ok (.invokevirtual 186, 3) := by decide +kernel
theorem dX9_bestLetter_31 : decode cX9_bestLetter 31 = .ok (.istore_n 3, 1) := by decide +kernel
theorem dX9_bestLetter_32 : decode cX9_bestLetter 32 = .ok (.iconst 1, 1) := by decide +kernel
theorem dX9_bestLetter_33 : decode cX9_bestLetter 33 = .ok (.istore 4, 2) := by decide +kernel
theorem dX9_bestLetter_35 : decode cX9_bestLetter 35 = .ok (.iload 4, 2) := by decide +kernel
theorem dX9_bestLetter_37 : decode cX9_bestLetter 37 = .ok (.bipush 26, 2) := by decide +kernel
theorem dX9_bestLetter_39 : decode cX9_bestLetter 39 = .ok (.if_icmp .ge 30, 3) := by decide +kernel
theorem dX9_bestLetter_42 : decode cX9_bestLetter 42 = .ok (.aload_n 0, 1) := by decide +kernel
theorem dX9_bestLetter_43 : decode cX9_bestLetter 43 = .ok (.iload 4, 2) := by decide +kernel
theorem dX9_bestLetter_45 : decode cX9_bestLetter 45 = .ok (.iload_n 1, 1) := by decide +kernel
theorem dX9_bestLetter_46 : decode cX9_bestLetter 46 = .ok (.invokevirtual 186, 3) := by decide +kernel
theorem dX9_bestLetter_49 : decode cX9_bestLetter 49 = .ok (.istore 5, 2) := by decide +kernel
theorem dX9_bestLetter_51 : decode cX9_bestLetter 51 = .ok (.iload 5, 2) := by decide +kernel
theorem dX9_bestLetter_53 : decode cX9_bestLetter 53 = .ok (.iload_n 3, 1) := by decide +kernel
theorem dX9_bestLetter_54 : decode cX9_bestLetter 54 = .ok (.if_icmp .le 9, 3) := by decide +kernel
theorem dX9_bestLetter_57 : decode cX9_bestLetter 57 = .ok (.iload 4, 2) := by decide +kernel
theorem dX9_bestLetter_59 : decode cX9_bestLetter 59 = .ok (.istore_n 2, 1) := by decide +kernel
theorem dX9_bestLetter_60 : decode cX9_bestLetter 60 = .ok (.iload 5, 2) := by decide +kernel
theorem dX9_bestLetter_62 : decode cX9_bestLetter 62 = .ok (.istore_n 3, 1) := by decide +kernel
theorem dX9_bestLetter_63 : decode cX9_bestLetter 63 = .ok (.iinc 4 1, 3) := by decide +kernel
theorem dX9_bestLetter_66 : decode cX9_bestLetter 66 = .ok (.goto (-31), 3) := by decide +kernel
theorem dX9_bestLetter_69 : decode cX9_bestLetter 69 = .ok (.iload_n 2, 1) := by decide +kernel
theorem dX9_bestLetter_70 : decode cX9_bestLetter 70 = .ok (.ireturn, 1) := by decide +kernel
set_option maxRecDepth 20000 in
theorem ggX9_count_X8_length : GoodIn wsX9_count wsX8_length := goodIn_r _ [8, 9, 128, 129] (by decide +kernel) (by decide +kernel)
set_option maxRecDepth 20000 in
theorem gX9_count_X8_length : GoodIn wsX9_count (wsV RX9 63 RX8 yX8_length wsX8_length) := goodIn_app (goodIn_of _ (by decide +kernel)) ggX9_count_X8_length
set_option maxRecDepth 20000 in
theorem ggX9_count_X8_unlikeLetters : GoodIn wsX9_count wsX8_unlikeLetters := goodIn_r _ [13, 9, 14, 15, 16, 7, 17, 18, 19, 20, 21, 22, 23, 24, 25, 128, 129] (by decide +kernel) (by decide +kernel)
set_option maxRecDepth 20000 in
theorem gX9_count_X8_unlikeLetters : GoodIn wsX9_count (wsV RX9 189 RX8 yX8_unlikeLetters wsX8_unlikeLetters) := goodIn_app (goodIn_of _ (by decide +kernel)) ggX9_count_X8_unlikeLetters
set_option maxRecDepth 20000 in
theorem ggX9_count_X0_unlikeFactors : GoodIn wsX9_count wsX0_unlikeFactors := goodIn_r _ [29, 30, 31, 28, 32, 33, 34, 35, 36, 37, 38, 39, 40, 41, 42, 7, 43, 44, 45, 46, 14, 15, 16, 17, 9, 18, 128, 129] (by decide +kernel) (by decide +kernel)
set_option maxRecDepth 20000 in
theorem gX9_count_X0_unlikeFactors : GoodIn wsX9_count (va_wsS RX9 180 yX0_unlikeFactors wsX0_unlikeFactors) := goodIn_app (goodIn_of _ (by decide +kernel)) ggX9_count_X0_unlikeFactors
set_option maxRecDepth 20000 in
theorem ggX9_count_X0_classes : GoodIn wsX9_count wsX0_classes := goodIn_r _ [49, 50, 5, 6, 7, 8, 9, 51, 52, 28, 53, 33, 34, 35, 36, 37, 38, 39, 40, 41, 42, 43, 44, 45, 46, 14, 15, 16, 17, 18, 54, 55, 56, 57, 58, 59, 60, 128, 129] (by decide +kernel) (by decide +kernel)
set_option maxRecDepth 20000 in
theorem gX9_count_X0_classes : GoodIn wsX9_count (va_wsS RX9 192 yX0_classes wsX0_classes) := goodIn_app (goodIn_of _ (by decide +kernel)) ggX9_count_X0_classes
set_option maxRecDepth 20000 in
theorem ggX9_count_X5_total : GoodIn wsX9_count wsX5_total := goodIn_r _ [64, 65, 5, 6, 7, 8, 9, 66, 67, 63, 68, 69, 70, 71, 72, 73, 74, 75, 76, 37, 38, 39, 14, 15, 16, 17, 18, 128, 129] (by decide +kernel) (by decide +kernel)
set_option maxRecDepth 20000 in
theorem gX9_count_X5_total : GoodIn wsX9_count (va_wsS RX9 196 yX5_total wsX5_total) := goodIn_app (goodIn_of _ (by decide +kernel)) ggX9_count_X5_total
set_option maxRecDepth 20000 in
theorem ggX9_count_X4_total : GoodIn wsX9_count wsX4_total := goodIn_r _ [80, 81, 5, 6, 7, 8, 9, 82, 83, 79, 84, 85, 15, 16, 17, 18, 86, 73, 74, 75, 76, 37, 38, 39, 14, 87, 88, 89, 90, 91, 92, 93, 94, 128, 129] (by decide +kernel) (by decide +kernel)
set_option maxRecDepth 20000 in
theorem gX9_count_X4_total : GoodIn wsX9_count (va_wsS RX9 199 yX4_total wsX4_total) := goodIn_app (goodIn_of _ (by decide +kernel)) ggX9_count_X4_total
set_option maxRecDepth 20000 in
theorem ggX9_count_X2_longestBorder : GoodIn wsX9_count wsX2_longestBorder := goodIn_r _ [97, 98, 88, 89, 90, 91, 92, 93, 94, 15, 16, 7, 17, 9, 18, 128, 129] (by decide +kernel) (by decide +kernel)
set_option maxRecDepth 20000 in
theorem gX9_count_X2_longestBorder : GoodIn wsX9_count (va_wsS RX9 67 yX2_longestBorder wsX2_longestBorder) := goodIn_app (goodIn_of _ (by decide +kernel)) ggX9_count_X2_longestBorder
set_option maxRecDepth 20000 in
theorem ggX9_count_X2_least : GoodIn wsX9_count wsX2_least := goodIn_r _ [90, 91, 92, 89, 93, 94, 15, 16, 7, 17, 9, 18, 128, 129] (by decide +kernel) (by decide +kernel)
set_option maxRecDepth 20000 in
theorem gX9_count_X2_least : GoodIn wsX9_count (va_wsS RX9 159 yX2_least wsX2_least) := goodIn_app (goodIn_of _ (by decide +kernel)) ggX9_count_X2_least
set_option maxRecDepth 20000 in
theorem ggX9_count_X0_longestTwice : GoodIn wsX9_count wsX0_longestTwice := goodIn_r _ [102, 36, 37, 38, 39, 50, 5, 6, 7, 8, 9, 33, 34, 28, 35, 40, 41, 42, 43, 44, 45, 46, 14, 15, 16, 17, 18, 128, 129] (by decide +kernel) (by decide +kernel)
set_option maxRecDepth 20000 in
theorem gX9_count_X0_longestTwice : GoodIn wsX9_count (va_wsS RX9 200 yX0_longestTwice wsX0_longestTwice) := goodIn_app (goodIn_of _ (by decide +kernel)) ggX9_count_X0_longestTwice
set_option maxRecDepth 20000 in
theorem ggX9_count_X5_unlikeTotal : GoodIn wsX9_count wsX5_unlikeTotal := goodIn_r _ [105, 65, 5, 6, 7, 8, 9, 69, 70, 63, 71, 72, 73, 74, 75, 76, 37, 38, 39, 14, 15, 16, 17, 18, 106, 107, 108, 128, 129] (by decide +kernel) (by decide +kernel)
set_option maxRecDepth 20000 in
theorem gX9_count_X5_unlikeTotal : GoodIn wsX9_count (va_wsS RX9 203 yX5_unlikeTotal wsX5_unlikeTotal) := goodIn_app (goodIn_of _ (by decide +kernel)) ggX9_count_X5_unlikeTotal
set_option maxRecDepth 20000 in
theorem ggX9_count_X1_size : GoodIn wsX9_count wsX1_size := goodIn_r _ [113, 114, 130, 131, 132] (by decide +kernel) (by decide +kernel)
set_option maxRecDepth 20000 in
theorem gX9_count_X1_size : GoodIn wsX9_count (wsV RX9 114 RX1 yX1_size wsX1_size) := goodIn_app (goodIn_of _ (by decide +kernel)) ggX9_count_X1_size
set_option maxRecDepth 20000 in
theorem ggX9_count_X7_length : GoodIn wsX9_count wsX7_length := goodIn_r _ [119, 120, 133, 134] (by decide +kernel) (by decide +kernel)
set_option maxRecDepth 20000 in
theorem gX9_count_X7_length : GoodIn wsX9_count (wsV RX9 112 RX7 yX7_length wsX7_length) := goodIn_app (goodIn_of _ (by decide +kernel)) ggX9_count_X7_length
theorem dX9_count_0 : decode cX9_count 0 = .ok (.aload_n 0, 1) := by decide +kernel
theorem dX9_count_1 : decode cX9_count 1 = .ok (.getfield 10, 3) := by decide +kernel
theorem dX9_count_4 : decode cX9_count 4 = .ok (.invokevirtual 63, 3) := by decide +kernel
theorem dX9_count_7 : decode cX9_count 7 = .ok (.istore_n 2, 1) := by decide +kernel
theorem dX9_count_8 : decode cX9_count 8 = .ok (.iload_n 1, 1) := by decide +kernel
theorem dX9_count_9 : decode cX9_count 9 = .ok (.tableswitch 158 0 11 #[63, 65, 73, 82, 90, 98, 106, 116, 126, 134, 142, 150], 63) := by decide +kernel
theorem dX9_count_72 : decode cX9_count 72 = .ok (.iload_n 2, 1) := by decide +kernel
theorem dX9_count_73 : decode cX9_count 73 = .ok (.ireturn, 1) := by decide +kernel
theorem dX9_count_74 : decode cX9_count 74 = .ok (.aload_n 0, 1) := by decide +kernel
theorem dX9_count_75 : decode cX9_count 75 = .ok (.getfield 10, 3) := by decide +kernel
theorem dX9_count_78 : decode cX9_count 78 = .ok (.invokevirtual 189, 3) := by decide +kernel
theorem dX9_count_81 : decode cX9_count 81 = .ok (.ireturn, 1) := by decide +kernel
theorem dX9_count_82 : decode cX9_count 82 = .ok (.aload_n 0, 1) := by decide +kernel
theorem dX9_count_83 : decode cX9_count 83 = .ok (.getfield 10, 3) := by decide +kernel
theorem dX9_count_86 : decode cX9_count 86 = .ok (.iload_n 2, 1) := by decide +kernel
theorem dX9_count_87 : decode cX9_count 87 = .ok (.invokestatic 180, 3) := by decide +kernel
theorem dX9_count_90 : decode cX9_count 90 = .ok (.ireturn, 1) := by decide +kernel
theorem dX9_count_91 : decode cX9_count 91 = .ok (.aload_n 0, 1) := by decide +kernel
theorem dX9_count_92 : decode cX9_count 92 = .ok (.getfield 10, 3) := by decide +kernel
theorem dX9_count_95 : decode cX9_count 95 = .ok (.invokestatic 192, 3) := by decide +kernel
theorem dX9_count_98 : decode cX9_count 98 = .ok (.ireturn, 1) := by decide +kernel
theorem dX9_count_99 : decode cX9_count 99 = .ok (.aload_n 0, 1) := by decide +kernel
theorem dX9_count_100 : decode cX9_count 100 = .ok (.getfield 10, 3) := by decide +kernel
theorem dX9_count_103 : decode cX9_count 103 = .ok (.invokestatic 196, 3) := by decide +kernel
theorem dX9_count_106 : decode cX9_count 106 = .ok (.ireturn, 1) := by decide +kernel
theorem dX9_count_107 : decode cX9_count 107 = .ok (.aload_n 0, 1) := by decide +kernel
theorem dX9_count_108 : decode cX9_count 108 = .ok (.getfield 10, 3) := by decide +kernel
theorem dX9_count_111 : decode cX9_count 111 = .ok (.invokestatic 199, 3) := by decide +kernel
theorem dX9_count_114 : decode cX9_count 114 = .ok (.ireturn, 1) := by decide +kernel
theorem dX9_count_115 : decode cX9_count 115 = .ok (.aload_n 0, 1) := by decide +kernel
theorem dX9_count_116 : decode cX9_count 116 = .ok (.getfield 10, 3) := by decide +kernel
theorem dX9_count_119 : decode cX9_count 119 = .ok (.iconst 0, 1) := by decide +kernel
theorem dX9_count_120 : decode cX9_count 120 = .ok (.iload_n 2, 1) := by decide +kernel
theorem dX9_count_121 : decode cX9_count 121 = .ok (.invokestatic 67, 3) := by decide +kernel
theorem dX9_count_124 : decode cX9_count 124 = .ok (.ireturn, 1) := by decide +kernel
theorem dX9_count_125 : decode cX9_count 125 = .ok (.aload_n 0, 1) := by decide +kernel
theorem dX9_count_126 : decode cX9_count 126 = .ok (.getfield 10, 3) := by decide +kernel
theorem dX9_count_129 : decode cX9_count 129 = .ok (.iconst 0, 1) := by decide +kernel
theorem dX9_count_130 : decode cX9_count 130 = .ok (.iload_n 2, 1) := by decide +kernel
theorem dX9_count_131 : decode cX9_count 131 = .ok (.invokestatic 159, 3) := by decide +kernel
theorem dX9_count_134 : decode cX9_count 134 = .ok (.ireturn, 1) := by decide +kernel
theorem dX9_count_135 : decode cX9_count 135 = .ok (.aload_n 0, 1) := by decide +kernel
theorem dX9_count_136 : decode cX9_count 136 = .ok (.getfield 10, 3) := by decide +kernel
theorem dX9_count_139 : decode cX9_count 139 = .ok (.invokestatic 200, 3) := by decide +kernel
theorem dX9_count_142 : decode cX9_count 142 = .ok (.ireturn, 1) := by decide +kernel
theorem dX9_count_143 : decode cX9_count 143 = .ok (.aload_n 0, 1) := by decide +kernel
theorem dX9_count_144 : decode cX9_count 144 = .ok (.getfield 10, 3) := by decide +kernel
theorem dX9_count_147 : decode cX9_count 147 = .ok (.invokestatic 203, 3) := by decide +kernel
theorem dX9_count_150 : decode cX9_count 150 = .ok (.ireturn, 1) := by decide +kernel
theorem dX9_count_151 : decode cX9_count 151 = .ok (.aload_n 0, 1) := by decide +kernel
theorem dX9_count_152 : decode cX9_count 152 = .ok (.getfield 29, 3) := by decide +kernel
theorem dX9_count_155 : decode cX9_count 155 = .ok (.invokevirtual 114, 3) := by decide +kernel
theorem dX9_count_158 : decode cX9_count 158 = .ok (.ireturn, 1) := by decide +kernel
theorem dX9_count_159 : decode cX9_count 159 = .ok (.aload_n 0, 1) := by decide +kernel
theorem dX9_count_160 : decode cX9_count 160 = .ok (.getfield 36, 3) := by decide +kernel
theorem dX9_count_163 : decode cX9_count 163 = .ok (.invokevirtual 112, 3) := by decide +kernel
theorem dX9_count_166 : decode cX9_count 166 = .ok (.ireturn, 1) := by decide +kernel
theorem dX9_count_167 : decode cX9_count 167 = .ok (.bipush (-2), 2) := by decide +kernel
theorem dX9_count_169 : decode cX9_count 169 = .ok (.ireturn, 1) := by decide +kernel
theorem dX9_isLetter_0 : decode cX9_isLetter 0 = .ok (.iload_n 0, 1) := by decide +kernel
theorem dX9_isLetter_1 : decode cX9_isLetter 1 = .ok (.ifCond .lt 13, 3) := by decide +kernel
theorem dX9_isLetter_4 : decode cX9_isLetter 4 = .ok (.iload_n 0, 1) := by decide +kernel
theorem dX9_isLetter_5 : decode cX9_isLetter 5 = .ok (.bipush 26, 2) := by decide +kernel
theorem dX9_isLetter_7 : decode cX9_isLetter 7 = .ok (.if_icmp .ge 7, 3) := by decide +kernel
theorem dX9_isLetter_10 : decode cX9_isLetter 10 = .ok (.iconst 1, 1) := by decide +kernel
theorem dX9_isLetter_11 : decode cX9_isLetter 11 = .ok (.goto 4, 3) := by decide +kernel
theorem dX9_isLetter_14 : decode cX9_isLetter 14 = .ok (.iconst 0, 1) := by decide +kernel
theorem dX9_isLetter_15 : decode cX9_isLetter 15 = .ok (.ireturn, 1) := by decide +kernel
theorem dX9_isBrought_0 : decode cX9_isBrought 0 = .ok (.iload_n 0, 1) := by decide +kernel
theorem dX9_isBrought_1 : decode cX9_isBrought 1 = .ok (.ifCond .lt 12, 3) := by decide +kernel
theorem dX9_isBrought_4 : decode cX9_isBrought 4 = .ok (.iload_n 0, 1) := by decide +kernel
theorem dX9_isBrought_5 : decode cX9_isBrought 5 = .ok (.iconst 3, 1) := by decide +kernel
theorem dX9_isBrought_6 : decode cX9_isBrought 6 = .ok (.if_icmp .gt 7, 3) := by decide +kernel
theorem dX9_isBrought_9 : decode cX9_isBrought 9 = .ok (.iconst 1, 1) := by decide +kernel
theorem dX9_isBrought_10 : decode cX9_isBrought 10 = .ok (.goto 4, 3) := by decide +kernel
theorem dX9_isBrought_13 : decode cX9_isBrought 13 = .ok (.iconst 0, 1) := by decide +kernel
theorem dX9_isBrought_14 : decode cX9_isBrought 14 = .ok (.ireturn, 1) := by decide +kernel
set_option maxRecDepth 20000 in
theorem ggX9_draftWith_X8_copyFrom : GoodIn wsX9_draftWith wsX8_copyFrom := goodIn_r _ [7, 8, 9, 10, 6, 11, 12, 13, 14, 15, 16, 17, 18, 19, 20, 21, 22, 23, 24, 25, 26, 27, 28, 29, 38, 39] (by decide +kernel) (by decide +kernel)
set_option maxRecDepth 20000 in
theorem gX9_draftWith_X8_copyFrom : GoodIn wsX9_draftWith (wsV RX9 98 RX8 yX8_copyFrom wsX8_copyFrom) := goodIn_app (goodIn_of _ (by decide +kernel)) ggX9_draftWith_X8_copyFrom
set_option maxRecDepth 20000 in
theorem ggX9_draftWith_X8_append : GoodIn wsX9_draftWith wsX8_append := goodIn_r _ [29, 12, 25, 38, 39] (by decide +kernel) (by decide +kernel)
set_option maxRecDepth 20000 in
theorem gX9_draftWith_X8_append : GoodIn wsX9_draftWith (wsV RX9 87 RX8 yX8_append wsX8_append) := goodIn_app (goodIn_of _ (by decide +kernel)) ggX9_draftWith_X8_append
theorem dX9_draftWith_0 : decode cX9_draftWith 0 = .ok (.aload_n 0, 1) := by decide +kernel
theorem dX9_draftWith_1 : decode cX9_draftWith 1 = .ok (.getfield 16, 3) := by decide +kernel
theorem dX9_draftWith_4 : decode cX9_draftWith 4 = .ok (.aload_n 0, 1) := by decide +kernel
theorem dX9_draftWith_5 : decode cX9_draftWith 5 = .ok (.getfield 10, 3) := by decide +kernel
theorem dX9_draftWith_8 : decode cX9_draftWith 8 = .ok (.invokevirtual 98, 3) := by decide +kernel
theorem dX9_draftWith_11 : decode cX9_draftWith 11 = .ok (.aload_n 0, 1) := by decide +kernel
theorem dX9_draftWith_12 : decode cX9_draftWith 12 = .ok (.getfield 16, 3) := by decide +kernel
theorem dX9_draftWith_15 : decode cX9_draftWith 15 = .ok (.iload_n 1, 1) := by decide +kernel
theorem dX9_draftWith_16 : decode cX9_draftWith 16 = .ok (.invokevirtual 87, 3) := by decide +kernel
theorem dX9_draftWith_19 : decode cX9_draftWith 19 = .ok (.return_, 1) := by decide +kernel
set_option maxRecDepth 20000 in
theorem ggX9_become_X1_record : GoodIn wsX9_become wsX1_record := goodIn_r _ [7, 8, 9, 10, 11, 12, 13, 14, 15, 16, 17, 6, 18, 19, 20, 21, 22, 23, 24, 25, 26, 27, 28, 29, 30, 31, 32, 33, 34, 35, 36, 37, 38, 39, 40, 41, 42, 43, 44, 45, 54, 55, 56, 57, 58] (by decide +kernel) (by decide +kernel)
set_option maxRecDepth 20000 in
theorem gX9_become_X1_record : GoodIn wsX9_become (wsV RX9 206 RX1 yX1_record wsX1_record) := goodIn_app (goodIn_of _ (by decide +kernel)) ggX9_become_X1_record
set_option maxRecDepth 20000 in
theorem ggX9_become_X8_copyFrom : GoodIn wsX9_become wsX8_copyFrom := goodIn_r _ [23, 24, 25, 26, 22, 27, 28, 29, 30, 31, 32, 33, 34, 35, 36, 37, 38, 39, 40, 41, 42, 43, 44, 45, 57, 58] (by decide +kernel) (by decide +kernel)
set_option maxRecDepth 20000 in
theorem gX9_become_X8_copyFrom : GoodIn wsX9_become (wsV RX9 98 RX8 yX8_copyFrom wsX8_copyFrom) := goodIn_app (goodIn_of _ (by decide +kernel)) ggX9_become_X8_copyFrom
theorem dX9_become_0 : decode cX9_become 0 = .ok (.aload_n 0, 1) := by decide +kernel
theorem dX9_become_1 : decode cX9_become 1 = .ok (.getfield 29, 3) := by decide +kernel
theorem dX9_become_4 : decode cX9_become 4 = .ok (.aload_n 0, 1) := by decide +kernel
theorem dX9_become_5 : decode cX9_become 5 = .ok (.getfield 10, 3) := by decide +kernel
theorem dX9_become_8 : decode cX9_become 8 = .ok (.invokevirtual 206, 3) := by decide +kernel
theorem dX9_become_11 : decode cX9_become 11 = .ok (.aload_n 0, 1) := by decide +kernel
theorem dX9_become_12 : decode cX9_become 12 = .ok (.getfield 10, 3) := by decide +kernel
theorem dX9_become_15 : decode cX9_become 15 = .ok (.aload_n 1, 1) := by decide +kernel
theorem dX9_become_16 : decode cX9_become 16 = .ok (.invokevirtual 98, 3) := by decide +kernel
theorem dX9_become_19 : decode cX9_become 19 = .ok (.return_, 1) := by decide +kernel
set_option maxRecDepth 20000 in
theorem ggX9_broughtBy_X9_draftWith : GoodIn wsX9_broughtBy wsX9_draftWith := goodIn_r _ [6, 1, 7, 8, 9, 10, 11, 12, 13, 14, 15, 16, 17, 18, 19, 20, 21, 22, 23, 24, 25, 26, 27, 28, 29, 30, 31, 32, 33, 34, 35, 89, 90, 91, 92, 93, 94, 95, 96, 97] (by decide +kernel) (by decide +kernel)
set_option maxRecDepth 20000 in
theorem gX9_broughtBy_X9_draftWith : GoodIn wsX9_broughtBy (wsV RX9 55 RX9 yX9_draftWith wsX9_draftWith) := goodIn_app (goodIn_of _ (by decide +kernel)) ggX9_broughtBy_X9_draftWith
set_option maxRecDepth 20000 in
theorem ggX9_broughtBy_X8_length : GoodIn wsX9_broughtBy wsX8_length := goodIn_r _ [21, 17, 96, 97] (by decide +kernel) (by decide +kernel)
set_option maxRecDepth 20000 in
theorem gX9_broughtBy_X8_length : GoodIn wsX9_broughtBy (wsV RX9 63 RX8 yX8_length wsX8_length) := goodIn_app (goodIn_of _ (by decide +kernel)) ggX9_broughtBy_X8_length
set_option maxRecDepth 20000 in
theorem ggX9_broughtBy_X2_longestBorder : GoodIn wsX9_broughtBy wsX2_longestBorder := goodIn_r _ [40, 41, 42, 39, 43, 44, 45, 46, 47, 27, 28, 11, 29, 17, 30, 96, 97] (by decide +kernel) (by decide +kernel)
set_option maxRecDepth 20000 in
theorem gX9_broughtBy_X2_longestBorder : GoodIn wsX9_broughtBy (va_wsS RX9 67 yX2_longestBorder wsX2_longestBorder) := goodIn_app (goodIn_of _ (by decide +kernel)) ggX9_broughtBy_X2_longestBorder
set_option maxRecDepth 20000 in
theorem ggX9_broughtBy_X0_endingFirstAt : GoodIn wsX9_broughtBy wsX0_endingFirstAt := goodIn_r _ [51, 52, 53, 50, 54, 55, 56, 57, 58, 59, 60, 61, 11, 62, 63, 64, 65, 26, 27, 28, 29, 17, 30, 96, 97] (by decide +kernel) (by decide +kernel)
set_option maxRecDepth 20000 in
theorem gX9_broughtBy_X0_endingFirstAt : GoodIn wsX9_broughtBy (va_wsS RX9 209 yX0_endingFirstAt wsX0_endingFirstAt) := goodIn_app (goodIn_of _ (by decide +kernel)) ggX9_broughtBy_X0_endingFirstAt
set_option maxRecDepth 20000 in
theorem ggX9_broughtBy_X5_endingAt : GoodIn wsX9_broughtBy wsX5_endingAt := goodIn_r _ [69, 70, 71, 68, 72, 73, 74, 75, 11, 76, 17, 77, 56, 57, 58, 26, 27, 28, 29, 30, 96, 97] (by decide +kernel) (by decide +kernel)
set_option maxRecDepth 20000 in
theorem gX9_broughtBy_X5_endingAt : GoodIn wsX9_broughtBy (va_wsS RX9 131 yX5_endingAt wsX5_endingAt) := goodIn_app (goodIn_of _ (by decide +kernel)) ggX9_broughtBy_X5_endingAt
set_option maxRecDepth 20000 in
theorem ggX9_broughtBy_X4_total : GoodIn wsX9_broughtBy wsX4_total := goodIn_r _ [81, 82, 19, 20, 11, 21, 17, 83, 84, 80, 85, 86, 27, 28, 29, 30, 87, 74, 75, 76, 77, 56, 57, 58, 26, 88, 42, 39, 43, 44, 45, 46, 47, 96, 97] (by decide +kernel) (by decide +kernel)
set_option maxRecDepth 20000 in
theorem gX9_broughtBy_X4_total : GoodIn wsX9_broughtBy (va_wsS RX9 199 yX4_total wsX4_total) := goodIn_app (goodIn_of _ (by decide +kernel)) ggX9_broughtBy_X4_total
theorem dX9_broughtBy_0 : decode cX9_broughtBy 0 = .ok (.aload_n 0, 1) := by decide +kernel
theorem dX9_broughtBy_1 : decode cX9_broughtBy 1 = .ok (.iload_n 1, 1) := by decide +kernel
theorem dX9_broughtBy_2 : decode cX9_broughtBy 2 = .ok (.invokevirtual 55, 3) := by decide +kernel
theorem dX9_broughtBy_5 : decode cX9_broughtBy 5 = .ok (.aload_n 0, 1) := by decide +kernel
theorem dX9_broughtBy_6 : decode cX9_broughtBy 6 = .ok (.getfield 16, 3) := by decide +kernel
theorem dX9_broughtBy_9 : decode cX9_broughtBy 9 = .ok (.invokevirtual 63, 3) := by decide +kernel
theorem dX9_broughtBy_12 : decode cX9_broughtBy 12 = .ok (.istore_n 3, 1) := by decide +kernel
theorem dX9_broughtBy_13 : decode cX9_broughtBy 13 = .ok (.iload_n 2, 1) := by decide +kernel
theorem dX9_broughtBy_14 : decode cX9_broughtBy 14 = .ok (.tableswitch 54 0 2 #[26, 36, 45], 26) := by decide +kernel
theorem dX9_broughtBy_40 : decode cX9_broughtBy 40 = .ok (.aload_n 0, 1) := by decide +kernel
theorem dX9_broughtBy_41 : decode cX9_broughtBy 41 = .ok (.getfield 16, 3) := by decide +kernel
theorem dX9_broughtBy_44 : decode cX9_broughtBy 44 = .ok (.iconst 0, 1) := by decide +kernel
theorem dX9_broughtBy_45 : decode cX9_broughtBy 45 = .ok (.iload_n 3, 1) := by decide +kernel
theorem dX9_broughtBy_46 : decode cX9_broughtBy 46 = .ok (.invokestatic 67, 3) := by decide +kernel
theorem dX9_broughtBy_49 : decode cX9_broughtBy 49 = .ok (.ireturn, 1) := by decide +kernel
theorem dX9_broughtBy_50 : decode cX9_broughtBy 50 = .ok (.aload_n 0, 1) := by decide +kernel
theorem dX9_broughtBy_51 : decode cX9_broughtBy 51 = .ok (.getfield 16, 3) := by decide +kernel
theorem dX9_broughtBy_54 : decode cX9_broughtBy 54 = .ok (.iload_n 3, 1) := by decide +kernel
theorem dX9_broughtBy_55 : decode cX9_broughtBy 55 = .ok (.invokestatic 209, 3) := by decide +kernel
theorem dX9_broughtBy_58 : decode cX9_broughtBy 58 = .ok (.ireturn, 1) := by decide +kernel
theorem dX9_broughtBy_59 : decode cX9_broughtBy 59 = .ok (.aload_n 0, 1) := by decide +kernel
theorem dX9_broughtBy_60 : decode cX9_broughtBy 60 = .ok (.getfield 16, 3) := by decide +kernel
theorem dX9_broughtBy_63 : decode cX9_broughtBy 63 = .ok (.iload_n 3, 1) := by decide +kernel
theorem dX9_broughtBy_64 : decode cX9_broughtBy 64 = .ok (.invokestatic 131, 3) := by decide +kernel
theorem dX9_broughtBy_67 : decode cX9_broughtBy 67 = .ok (.ireturn, 1) := by decide +kernel
theorem dX9_broughtBy_68 : decode cX9_broughtBy 68 = .ok (.aload_n 0, 1) := by decide +kernel
theorem dX9_broughtBy_69 : decode cX9_broughtBy 69 = .ok (.getfield 16, 3) := by decide +kernel
theorem dX9_broughtBy_72 : decode cX9_broughtBy 72 = .ok (.invokestatic 199, 3) := by decide +kernel
theorem dX9_broughtBy_75 : decode cX9_broughtBy 75 = .ok (.ireturn, 1) := by decide +kernel
theorem dX10_init_0 : decode cX10_init 0 = .ok (.aload_n 0, 1) := by decide +kernel
theorem dX10_init_1 : decode cX10_init 1 = .ok (.invokespecial 1, 3) := by decide +kernel
theorem dX10_init_4 : decode cX10_init 4 = .ok (.aload_n 0, 1) := by decide +kernel
theorem dX10_init_5 : decode cX10_init 5 = .ok (.sipush 287, 3) := by decide +kernel
theorem dX10_init_8 : decode cX10_init 8 = .ok (.newarray .int, 2) := by decide +kernel
theorem dX10_init_10 : decode cX10_init 10 = .ok (.putfield 7, 3) := by decide +kernel
theorem dX10_init_13 : decode cX10_init 13 = .ok (.aload_n 0, 1) := by decide +kernel
theorem dX10_init_14 : decode cX10_init 14 = .ok (.bipush 60, 2) := by decide +kernel
theorem dX10_init_16 : decode cX10_init 16 = .ok (.newarray .char, 2) := by decide +kernel
theorem dX10_init_18 : decode cX10_init 18 = .ok (.putfield 13, 3) := by decide +kernel
theorem dX10_init_21 : decode cX10_init 21 = .ok (.aload_n 0, 1) := by decide +kernel
theorem dX10_init_22 : decode cX10_init 22 = .ok (.bipush 41, 2) := by decide +kernel
theorem dX10_init_24 : decode cX10_init 24 = .ok (.newarray .int, 2) := by decide +kernel
theorem dX10_init_26 : decode cX10_init 26 = .ok (.putfield 17, 3) := by decide +kernel
theorem dX10_init_29 : decode cX10_init 29 = .ok (.return_, 1) := by decide +kernel
theorem dX10_in_0 : decode cX10_in 0 = .ok (.iload_n 0, 1) := by decide +kernel
theorem dX10_in_1 : decode cX10_in 1 = .ok (.iload_n 1, 1) := by decide +kernel
theorem dX10_in_2 : decode cX10_in 2 = .ok (.if_icmp .lt 12, 3) := by decide +kernel
theorem dX10_in_5 : decode cX10_in 5 = .ok (.iload_n 0, 1) := by decide +kernel
theorem dX10_in_6 : decode cX10_in 6 = .ok (.iload_n 2, 1) := by decide +kernel
theorem dX10_in_7 : decode cX10_in 7 = .ok (.if_icmp .gt 7, 3) := by decide +kernel
theorem dX10_in_10 : decode cX10_in 10 = .ok (.iconst 1, 1) := by decide +kernel
theorem dX10_in_11 : decode cX10_in 11 = .ok (.goto 4, 3) := by decide +kernel
theorem dX10_in_14 : decode cX10_in 14 = .ok (.iconst 0, 1) := by decide +kernel
theorem dX10_in_15 : decode cX10_in 15 = .ok (.ireturn, 1) := by decide +kernel
theorem dX10_copies_0 : decode cX10_copies 0 = .ok (.iconst 0, 1) := by decide +kernel
theorem dX10_copies_1 : decode cX10_copies 1 = .ok (.istore_n 3, 1) := by decide +kernel
theorem dX10_copies_2 : decode cX10_copies 2 = .ok (.iload_n 3, 1) := by decide +kernel
theorem dX10_copies_3 : decode cX10_copies 3 = .ok (.bipush 41, 2) := by decide +kernel
theorem dX10_copies_5 : decode cX10_copies 5 = .ok (.if_icmp .ge 31, 3) := by decide +kernel
theorem dX10_copies_8 : decode cX10_copies 8 = .ok (.aload_n 0, 1) := by decide +kernel
theorem dX10_copies_9 : decode cX10_copies 9 = .ok (.getfield 7, 3) := by decide +kernel
theorem dX10_copies_12 : decode cX10_copies 12 = .ok (.bipush 41, 2) := by decide +kernel
theorem dX10_copies_14 : decode cX10_copies 14 = .ok (.iload_n 2, 1) := by decide +kernel
theorem dX10_copies_15 : decode cX10_copies 15 = .ok (.imul, 1) := by decide +kernel
theorem dX10_copies_16 : decode cX10_copies 16 = .ok (.iload_n 3, 1) := by decide +kernel
theorem dX10_copies_17 : decode cX10_copies 17 = .ok (.iadd, 1) := by decide +kernel
theorem dX10_copies_18 : decode cX10_copies 18 = .ok (.aload_n 0, 1) := by decide +kernel
theorem dX10_copies_19 : decode cX10_copies 19 = .ok (.getfield 7, 3) := by decide +kernel
theorem dX10_copies_22 : decode cX10_copies 22 = .ok (.bipush 41, 2) := by decide +kernel
theorem dX10_copies_24 : decode cX10_copies 24 = .ok (.iload_n 1, 1) := by decide +kernel
theorem dX10_copies_25 : decode cX10_copies 25 = .ok (.imul, 1) := by decide +kernel
theorem dX10_copies_26 : decode cX10_copies 26 = .ok (.iload_n 3, 1) := by decide +kernel
theorem dX10_copies_27 : decode cX10_copies 27 = .ok (.iadd, 1) := by decide +kernel
theorem dX10_copies_28 : decode cX10_copies 28 = .ok (.iaload, 1) := by decide +kernel
theorem dX10_copies_29 : decode cX10_copies 29 = .ok (.iastore, 1) := by decide +kernel
theorem dX10_copies_30 : decode cX10_copies 30 = .ok (.iinc 3 1, 3) := by decide +kernel
theorem dX10_copies_33 : decode cX10_copies 33 = .ok (.goto (-31), 3) := by decide +kernel
theorem dX10_copies_36 : decode cX10_copies 36 = .ok (.return_, 1) := by decide +kernel
set_option maxRecDepth 20000 in
theorem ggX10_records_X10_copies : GoodIn wsX10_records wsX10_copies := goodIn_r _ [6, 7, 8, 9, 10, 11, 12, 13] (by decide +kernel) (by decide +kernel)
set_option maxRecDepth 20000 in
theorem gX10_records_X10_copies : GoodIn wsX10_records (wsV RX10 24 RX10 yX10_copies wsX10_copies) := goodIn_app (goodIn_of _ (by decide +kernel)) ggX10_records_X10_copies
theorem dX10_records_0 : decode cX10_records 0 = .ok (.aload_n 0, 1) := by decide +kernel
theorem dX10_records_1 : decode cX10_records 1 = .ok (.getfield 20, 3) := by decide +kernel
theorem dX10_records_4 : decode cX10_records 4 = .ok (.iconst 4, 1) := by decide +kernel
theorem dX10_records_5 : decode cX10_records 5 = .ok (.if_icmp .ne 34, 3) := by decide +kernel
theorem dX10_records_8 : decode cX10_records 8 = .ok (.iconst 1, 1) := by decide +kernel
theorem dX10_records_9 : decode cX10_records 9 = .ok (.istore_n 1, 1) := by decide +kernel
theorem dX10_records_10 : decode cX10_records 10 = .ok (.iload_n 1, 1) := by decide +kernel
theorem dX10_records_11 : decode cX10_records 11 = .ok (.iconst 4, 1) := by decide +kernel
theorem dX10_records_12 : decode cX10_records 12 = .ok (.if_icmp .ge 17, 3) := by decide +kernel
theorem dX10_records_15 : decode cX10_records 15 = .ok (.aload_n 0, 1) := by decide +kernel
theorem dX10_records_16 : decode cX10_records 16 = .ok (.iload_n 1, 1) := by decide +kernel
theorem dX10_records_17 : decode cX10_records 17 = .ok (.iconst 1, 1) := by decide +kernel
theorem dX10_records_18 : decode cX10_records 18 = .ok (.iadd, 1) := by decide +kernel
theorem dX10_records_19 : decode cX10_records 19 = .ok (.iload_n 1, 1) := by decide +kernel
theorem dX10_records_20 : decode cX10_records 20 = .ok (.invokevirtual 24, 3) := by decide +kernel
theorem dX10_records_23 : decode cX10_records 23 = .ok (.iinc 1 1, 3) := by decide +kernel
theorem dX10_records_26 : decode cX10_records 26 = .ok (.goto (-16), 3) := by decide +kernel
theorem dX10_records_29 : decode cX10_records 29 = .ok (.aload_n 0, 1) := by decide +kernel
theorem dX10_records_30 : decode cX10_records 30 = .ok (.dup, 1) := by decide +kernel
theorem dX10_records_31 : decode cX10_records 31 = .ok (.getfield 20, 3) := by decide +kernel
theorem dX10_records_34 : decode cX10_records 34 = .ok (.iconst 1, 1) := by decide +kernel
theorem dX10_records_35 : decode cX10_records 35 = .ok (.isub, 1) := by decide +kernel
theorem dX10_records_36 : decode cX10_records 36 = .ok (.putfield 20, 3) := by decide +kernel
theorem dX10_records_39 : decode cX10_records 39 = .ok (.aload_n 0, 1) := by decide +kernel
theorem dX10_records_40 : decode cX10_records 40 = .ok (.dup, 1) := by decide +kernel
theorem dX10_records_41 : decode cX10_records 41 = .ok (.getfield 20, 3) := by decide +kernel
theorem dX10_records_44 : decode cX10_records 44 = .ok (.iconst 1, 1) := by decide +kernel
theorem dX10_records_45 : decode cX10_records 45 = .ok (.iadd, 1) := by decide +kernel
theorem dX10_records_46 : decode cX10_records 46 = .ok (.putfield 20, 3) := by decide +kernel
theorem dX10_records_49 : decode cX10_records 49 = .ok (.aload_n 0, 1) := by decide +kernel
theorem dX10_records_50 : decode cX10_records 50 = .ok (.iconst 0, 1) := by decide +kernel
theorem dX10_records_51 : decode cX10_records 51 = .ok (.aload_n 0, 1) := by decide +kernel
theorem dX10_records_52 : decode cX10_records 52 = .ok (.getfield 20, 3) := by decide +kernel
theorem dX10_records_55 : decode cX10_records 55 = .ok (.invokevirtual 24, 3) := by decide +kernel
theorem dX10_records_58 : decode cX10_records 58 = .ok (.return_, 1) := by decide +kernel
set_option maxRecDepth 20000 in
theorem ggX10_isPlace_X10_in : GoodIn wsX10_isPlace wsX10_in := goodIn_r _ [5] (by decide +kernel) (by decide +kernel)
set_option maxRecDepth 20000 in
theorem gX10_isPlace_X10_in : GoodIn wsX10_isPlace (va_wsS RX10 28 yX10_in wsX10_in) := goodIn_app (goodIn_of _ (by decide +kernel)) ggX10_isPlace_X10_in
theorem dX10_isPlace_0 : decode cX10_isPlace 0 = .ok (.iload_n 1, 1) := by decide +kernel
theorem dX10_isPlace_1 : decode cX10_isPlace 1 = .ok (.iconst 0, 1) := by decide +kernel
theorem dX10_isPlace_2 : decode cX10_isPlace 2 = .ok (.aload_n 0, 1) := by decide +kernel
theorem dX10_isPlace_3 : decode cX10_isPlace 3 = .ok (.getfield 7, 3) := by decide +kernel
theorem dX10_isPlace_6 : decode cX10_isPlace 6 = .ok (.iconst 0, 1) := by decide +kernel
theorem dX10_isPlace_7 : decode cX10_isPlace 7 = .ok (.iaload, 1) := by decide +kernel
theorem dX10_isPlace_8 : decode cX10_isPlace 8 = .ok (.iconst 1, 1) := by decide +kernel
theorem dX10_isPlace_9 : decode cX10_isPlace 9 = .ok (.isub, 1) := by decide +kernel
theorem dX10_isPlace_10 : decode cX10_isPlace 10 = .ok (.invokestatic 28, 3) := by decide +kernel
theorem dX10_isPlace_13 : decode cX10_isPlace 13 = .ok (.ireturn, 1) := by decide +kernel
theorem dX10_isFactor_0 : decode cX10_isFactor 0 = .ok (.iload_n 1, 1) := by decide +kernel
theorem dX10_isFactor_1 : decode cX10_isFactor 1 = .ok (.ifCond .lt 22, 3) := by decide +kernel
theorem dX10_isFactor_4 : decode cX10_isFactor 4 = .ok (.iload_n 1, 1) := by decide +kernel
theorem dX10_isFactor_5 : decode cX10_isFactor 5 = .ok (.iload_n 2, 1) := by decide +kernel
theorem dX10_isFactor_6 : decode cX10_isFactor 6 = .ok (.if_icmp .ge 17, 3) := by decide +kernel
theorem dX10_isFactor_9 : decode cX10_isFactor 9 = .ok (.iload_n 2, 1) := by decide +kernel
theorem dX10_isFactor_10 : decode cX10_isFactor 10 = .ok (.aload_n 0, 1) := by decide +kernel
theorem dX10_isFactor_11 : decode cX10_isFactor 11 = .ok (.getfield 7, 3) := by decide +kernel
theorem dX10_isFactor_14 : decode cX10_isFactor 14 = .ok (.iconst 0, 1) := by decide +kernel
theorem dX10_isFactor_15 : decode cX10_isFactor 15 = .ok (.iaload, 1) := by decide +kernel
theorem dX10_isFactor_16 : decode cX10_isFactor 16 = .ok (.if_icmp .gt 7, 3) := by decide +kernel
theorem dX10_isFactor_19 : decode cX10_isFactor 19 = .ok (.iconst 1, 1) := by decide +kernel
theorem dX10_isFactor_20 : decode cX10_isFactor 20 = .ok (.goto 4, 3) := by decide +kernel
theorem dX10_isFactor_23 : decode cX10_isFactor 23 = .ok (.iconst 0, 1) := by decide +kernel
theorem dX10_isFactor_24 : decode cX10_isFactor 24 = .ok (.ireturn, 1) := by decide +kernel
theorem dX10_letAt_0 : decode cX10_letAt 0 = .ok (.aload_n 0, 1) := by decide +kernel
theorem dX10_letAt_1 : decode cX10_letAt 1 = .ok (.getfield 7, 3) := by decide +kernel
theorem dX10_letAt_4 : decode cX10_letAt 4 = .ok (.iload_n 1, 1) := by decide +kernel
theorem dX10_letAt_5 : decode cX10_letAt 5 = .ok (.iconst 1, 1) := by decide +kernel
theorem dX10_letAt_6 : decode cX10_letAt 6 = .ok (.iadd, 1) := by decide +kernel
theorem dX10_letAt_7 : decode cX10_letAt 7 = .ok (.iload_n 2, 1) := by decide +kernel
theorem dX10_letAt_8 : decode cX10_letAt 8 = .ok (.iadd, 1) := by decide +kernel
theorem dX10_letAt_9 : decode cX10_letAt 9 = .ok (.iaload, 1) := by decide +kernel
theorem dX10_letAt_10 : decode cX10_letAt 10 = .ok (.ireturn, 1) := by decide +kernel
set_option maxRecDepth 20000 in
theorem ggX10_areSame_X10_letAt : GoodIn wsX10_areSame wsX10_letAt := goodIn_r _ [5, 6, 7, 8, 9, 10, 11, 12] (by decide +kernel) (by decide +kernel)
set_option maxRecDepth 20000 in
theorem gX10_areSame_X10_letAt : GoodIn wsX10_areSame (wsV RX10 32 RX10 yX10_letAt wsX10_letAt) := goodIn_app (goodIn_of _ (by decide +kernel)) ggX10_areSame_X10_letAt
theorem dX10_areSame_0 : decode cX10_areSame 0 = .ok (.iconst 0, 1) := by decide +kernel
theorem dX10_areSame_1 : decode cX10_areSame 1 = .ok (.istore 5, 2) := by decide +kernel
theorem dX10_areSame_3 : decode cX10_areSame 3 = .ok (.iload 5, 2) := by decide +kernel
theorem dX10_areSame_5 : decode cX10_areSame 5 = .ok (.iload 4, 2) := by decide +kernel
theorem dX10_areSame_7 : decode cX10_areSame 7 = .ok (.if_icmp .ge 32, 3) := by decide +kernel
theorem dX10_areSame_10 : decode cX10_areSame 10 = .ok (.aload_n 0, 1) := by decide +kernel
theorem dX10_areSame_11 : decode cX10_areSame 11 = .ok (.iload_n 1, 1) := by decide +kernel
theorem dX10_areSame_12 : decode cX10_areSame 12 = .ok (.iload_n 2, 1) := by decide +kernel
theorem dX10_areSame_13 : decode cX10_areSame 13 = .ok (.iload 5, 2) := by decide +kernel
theorem dX10_areSame_15 : decode cX10_areSame 15 = .ok (.iadd, 1) := by decide +kernel
theorem dX10_areSame_16 : decode cX10_areSame 16 = .ok (.invokevirtual 32, 3) := by decide +kernel
theorem dX10_areSame_19 : decode cX10_areSame 19 = .ok (.aload_n 0, 1) := by decide +kernel
theorem dX10_areSame_20 : decode cX10_areSame 20 = .ok (.iload_n 1, 1) := by decide +kernel
theorem dX10_areSame_21 : decode cX10_areSame 21 = .ok (.iload_n 3, 1) := by decide +kernel
theorem dX10_areSame_22 : decode cX10_areSame 22 = .ok (.iload 5, 2) := by decide +kernel
theorem dX10_areSame_24 : decode cX10_areSame 24 = .ok (.iadd, 1) := by decide +kernel
theorem dX10_areSame_25 : decode cX10_areSame 25 = .ok (.invokevirtual 32, 3) := by decide +kernel
theorem dX10_areSame_28 : decode cX10_areSame 28 = .ok (.if_icmp .eq 5, 3) := by decide +kernel
theorem dX10_areSame_31 : decode cX10_areSame 31 = .ok (.iconst 0, 1) := by decide +kernel
theorem dX10_areSame_32 : decode cX10_areSame 32 = .ok (.ireturn, 1) := by decide +kernel
theorem dX10_areSame_33 : decode cX10_areSame 33 = .ok (.iinc 5 1, 3) := by decide +kernel
theorem dX10_areSame_36 : decode cX10_areSame 36 = .ok (.goto (-33), 3) := by decide +kernel
theorem dX10_areSame_39 : decode cX10_areSame 39 = .ok (.iconst 1, 1) := by decide +kernel
theorem dX10_areSame_40 : decode cX10_areSame 40 = .ok (.ireturn, 1) := by decide +kernel
set_option maxRecDepth 20000 in
theorem ggX10_edge_X10_areSame : GoodIn wsX10_edge wsX10_areSame := goodIn_r _ [5, 6, 7, 8, 4, 9, 10, 11, 12, 13, 14, 15, 16] (by decide +kernel) (by decide +kernel)
set_option maxRecDepth 20000 in
theorem gX10_edge_X10_areSame : GoodIn wsX10_edge (wsV RX10 36 RX10 yX10_areSame wsX10_areSame) := goodIn_app (goodIn_of _ (by decide +kernel)) ggX10_edge_X10_areSame
theorem dX10_edge_0 : decode cX10_edge 0 = .ok (.iload 4, 2) := by decide +kernel
theorem dX10_edge_2 : decode cX10_edge 2 = .ok (.iconst 1, 1) := by decide +kernel
theorem dX10_edge_3 : decode cX10_edge 3 = .ok (.isub, 1) := by decide +kernel
theorem dX10_edge_4 : decode cX10_edge 4 = .ok (.istore 5, 2) := by decide +kernel
theorem dX10_edge_6 : decode cX10_edge 6 = .ok (.iload 5, 2) := by decide +kernel
theorem dX10_edge_8 : decode cX10_edge 8 = .ok (.ifCond .le 27, 3) := by decide +kernel
theorem dX10_edge_11 : decode cX10_edge 11 = .ok (.aload_n 0, 1) := by decide +kernel
theorem dX10_edge_12 : decode cX10_edge 12 = .ok (.iload_n 1, 1) := by decide +kernel
theorem dX10_edge_13 : decode cX10_edge 13 = .ok (.iload_n 2, 1) := by decide +kernel
theorem dX10_edge_14 : decode cX10_edge 14 = .ok (.iload_n 3, 1) := by decide +kernel
theorem dX10_edge_15 : decode cX10_edge 15 = .ok (.iload 5, 2) := by decide +kernel
theorem dX10_edge_17 : decode cX10_edge 17 = .ok (.isub, 1) := by decide +kernel
theorem dX10_edge_18 : decode cX10_edge 18 = .ok (.iload 5, 2) := by decide +kernel
theorem dX10_edge_20 : decode cX10_edge 20 = .ok (.invokevirtual 36, 3) := by decide +kernel
theorem dX10_edge_23 : decode cX10_edge 23 = .ok (.ifCond .eq 6, 3) := by decide +kernel
theorem dX10_edge_26 : decode cX10_edge 26 = .ok (.iload 5, 2) := by decide +kernel
theorem dX10_edge_28 : decode cX10_edge 28 = .ok (.ireturn, 1) := by decide +kernel
theorem dX10_edge_29 : decode cX10_edge 29 = .ok (.iinc 5 (-1), 3) := by decide +kernel
theorem dX10_edge_32 : decode cX10_edge 32 = .ok (.goto (-26), 3) := by decide +kernel
theorem dX10_edge_35 : decode cX10_edge 35 = .ok (.iconst 0, 1) := by decide +kernel
theorem dX10_edge_36 : decode cX10_edge 36 = .ok (.ireturn, 1) := by decide +kernel
set_option maxRecDepth 20000 in
theorem ggX10_period_X10_edge : GoodIn wsX10_period wsX10_edge := goodIn_r _ [5, 6, 7, 8, 4, 9, 10, 11, 12, 13, 14, 15, 16, 17, 18, 19, 20] (by decide +kernel) (by decide +kernel)
set_option maxRecDepth 20000 in
theorem gX10_period_X10_edge : GoodIn wsX10_period (wsV RX10 40 RX10 yX10_edge wsX10_edge) := goodIn_app (goodIn_of _ (by decide +kernel)) ggX10_period_X10_edge
theorem dX10_period_0 : decode cX10_period 0 = .ok (.iload_n 3, 1) := by decide +kernel
theorem dX10_period_1 : decode cX10_period 1 = .ok (.iload_n 2, 1) := by decide +kernel
theorem dX10_period_2 : decode cX10_period 2 = .ok (.isub, 1) := by decide +kernel
theorem dX10_period_3 : decode cX10_period 3 = .ok (.aload_n 0, 1) := by decide +kernel
theorem dX10_period_4 : decode cX10_period 4 = .ok (.iload_n 1, 1) := by decide +kernel
theorem dX10_period_5 : decode cX10_period 5 = .ok (.iload_n 2, 1) := by decide +kernel
theorem dX10_period_6 : decode cX10_period 6 = .ok (.iload_n 3, 1) := by decide +kernel
theorem dX10_period_7 : decode cX10_period 7 = .ok (.iload_n 3, 1) := by decide +kernel
theorem dX10_period_8 : decode cX10_period 8 = .ok (.iload_n 2, 1) := by decide +kernel
theorem dX10_period_9 : decode cX10_period 9 = .ok (.isub, 1) := by decide +kernel
theorem dX10_period_10 : decode cX10_period 10 = .ok (.invokevirtual 40, 3) := by decide +kernel
theorem dX10_period_13 : decode cX10_period 13 = .ok (.isub, 1) := by decide +kernel
theorem dX10_period_14 : decode cX10_period 14 = .ok (.ireturn, 1) := by decide +kernel
set_option maxRecDepth 20000 in
theorem ggX10_ends_X10_areSame : GoodIn wsX10_ends wsX10_areSame := goodIn_r _ [6, 7, 8, 9, 5, 10, 1, 11, 12, 13, 14, 15, 16] (by decide +kernel) (by decide +kernel)
set_option maxRecDepth 20000 in
theorem gX10_ends_X10_areSame : GoodIn wsX10_ends (wsV RX10 36 RX10 yX10_areSame wsX10_areSame) := goodIn_app (goodIn_of _ (by decide +kernel)) ggX10_ends_X10_areSame
theorem dX10_ends_0 : decode cX10_ends 0 = .ok (.lconst 0, 1) := by decide +kernel
theorem dX10_ends_1 : decode cX10_ends 1 = .ok (.lstore 4, 2) := by decide +kernel
theorem dX10_ends_3 : decode cX10_ends 3 = .ok (.iload_n 3, 1) := by decide +kernel
theorem dX10_ends_4 : decode cX10_ends 4 = .ok (.iload_n 2, 1) := by decide +kernel
theorem dX10_ends_5 : decode cX10_ends 5 = .ok (.isub, 1) := by decide +kernel
theorem dX10_ends_6 : decode cX10_ends 6 = .ok (.istore 6, 2) := by decide +kernel
theorem dX10_ends_8 : decode cX10_ends 8 = .ok (.iload 6, 2) := by decide +kernel
theorem dX10_ends_10 : decode cX10_ends 10 = .ok (.istore 7, 2) := by decide +kernel
theorem dX10_ends_12 : decode cX10_ends 12 = .ok (.iload 7, 2) := by decide +kernel
theorem dX10_ends_14 : decode cX10_ends 14 = .ok (.aload_n 0, 1) := by decide +kernel
theorem dX10_ends_15 : decode cX10_ends 15 = .ok (.getfield 7, 3) := by decide +kernel
theorem dX10_ends_18 : decode cX10_ends 18 = .ok (.iload_n 1, 1) := by decide +kernel
theorem dX10_ends_19 : decode cX10_ends 19 = .ok (.iaload, 1) := by decide +kernel
theorem dX10_ends_20 : decode cX10_ends 20 = .ok (.if_icmp .gt 38, 3) := by decide +kernel
theorem dX10_ends_23 : decode cX10_ends 23 = .ok (.lload 4, 2) := by decide +kernel
theorem dX10_ends_25 : decode cX10_ends 25 = .ok (.aload_n 0, 1) := by decide +kernel
theorem dX10_ends_26 : decode cX10_ends 26 = .ok (.iload_n 1, 1) := by decide +kernel
theorem dX10_ends_27 : decode cX10_ends 27 = .ok (.iload_n 2, 1) := by decide +kernel
theorem dX10_ends_28 : decode cX10_ends 28 = .ok (.iload 7, 2) := by decide +kernel
theorem dX10_ends_30 : decode cX10_ends 30 = .ok (.iload 6, 2) := by decide +kernel
theorem dX10_ends_32 : decode cX10_ends 32 = .ok (.isub, 1) := by decide +kernel
theorem dX10_ends_33 : decode cX10_ends 33 = .ok (.iload 6, 2) := by decide +kernel
theorem dX10_ends_35 : decode cX10_ends 35 = .ok (.invokevirtual 36, 3) := by decide +kernel
theorem dX10_ends_38 : decode cX10_ends 38 = .ok (.ifCond .eq 10, 3) := by decide +kernel
theorem dX10_ends_41 : decode cX10_ends 41 = .ok (.lconst 1, 1) := by decide +kernel
theorem dX10_ends_42 : decode cX10_ends 42 = .ok (.iload 7, 2) := by decide +kernel
theorem dX10_ends_44 : decode cX10_ends 44 = .ok (.lshl, 1) := by decide +kernel
theorem dX10_ends_45 : decode cX10_ends 45 = .ok (.goto 4, 3) := by decide +kernel
theorem dX10_ends_48 : decode cX10_ends 48 = .ok (.lconst 0, 1) := by decide +kernel
theorem dX10_ends_49 : decode cX10_ends 49 = .ok (.lor, 1) := by decide +kernel
theorem dX10_ends_50 : decode cX10_ends 50 = .ok (.lstore 4, 2) := by decide +kernel
theorem dX10_ends_52 : decode cX10_ends 52 = .ok (.iinc 7 1, 3) := by decide +kernel
theorem dX10_ends_55 : decode cX10_ends 55 = .ok (.goto (-43), 3) := by decide +kernel
theorem dX10_ends_58 : decode cX10_ends 58 = .ok (.lload 4, 2) := by decide +kernel
theorem dX10_ends_60 : decode cX10_ends 60 = .ok (.lreturn, 1) := by decide +kernel
set_option maxRecDepth 20000 in
theorem ggX10_isFirst_X10_areSame : GoodIn wsX10_isFirst wsX10_areSame := goodIn_r _ [5, 6, 7, 8, 4, 9, 10, 11, 12, 13, 14, 15, 16] (by decide +kernel) (by decide +kernel)
set_option maxRecDepth 20000 in
theorem gX10_isFirst_X10_areSame : GoodIn wsX10_isFirst (wsV RX10 36 RX10 yX10_areSame wsX10_areSame) := goodIn_app (goodIn_of _ (by decide +kernel)) ggX10_isFirst_X10_areSame
theorem dX10_isFirst_0 : decode cX10_isFirst 0 = .ok (.iconst 0, 1) := by decide +kernel
theorem dX10_isFirst_1 : decode cX10_isFirst 1 = .ok (.istore 4, 2) := by decide +kernel
theorem dX10_isFirst_3 : decode cX10_isFirst 3 = .ok (.iload 4, 2) := by decide +kernel
theorem dX10_isFirst_5 : decode cX10_isFirst 5 = .ok (.iload_n 2, 1) := by decide +kernel
theorem dX10_isFirst_6 : decode cX10_isFirst 6 = .ok (.if_icmp .ge 25, 3) := by decide +kernel
theorem dX10_isFirst_9 : decode cX10_isFirst 9 = .ok (.aload_n 0, 1) := by decide +kernel
theorem dX10_isFirst_10 : decode cX10_isFirst 10 = .ok (.iload_n 1, 1) := by decide +kernel
theorem dX10_isFirst_11 : decode cX10_isFirst 11 = .ok (.iload 4, 2) := by decide +kernel
theorem dX10_isFirst_13 : decode cX10_isFirst 13 = .ok (.iload_n 2, 1) := by decide +kernel
theorem dX10_isFirst_14 : decode cX10_isFirst 14 = .ok (.iload_n 3, 1) := by decide +kernel
theorem dX10_isFirst_15 : decode cX10_isFirst 15 = .ok (.iload_n 2, 1) := by decide +kernel
theorem dX10_isFirst_16 : decode cX10_isFirst 16 = .ok (.isub, 1) := by decide +kernel
theorem dX10_isFirst_17 : decode cX10_isFirst 17 = .ok (.invokevirtual 36, 3) := by decide +kernel
theorem dX10_isFirst_20 : decode cX10_isFirst 20 = .ok (.ifCond .eq 5, 3) := by decide +kernel
theorem dX10_isFirst_23 : decode cX10_isFirst 23 = .ok (.iconst 0, 1) := by decide +kernel
theorem dX10_isFirst_24 : decode cX10_isFirst 24 = .ok (.ireturn, 1) := by decide +kernel
theorem dX10_isFirst_25 : decode cX10_isFirst 25 = .ok (.iinc 4 1, 3) := by decide +kernel
theorem dX10_isFirst_28 : decode cX10_isFirst 28 = .ok (.goto (-25), 3) := by decide +kernel
theorem dX10_isFirst_31 : decode cX10_isFirst 31 = .ok (.iconst 1, 1) := by decide +kernel
theorem dX10_isFirst_32 : decode cX10_isFirst 32 = .ok (.ireturn, 1) := by decide +kernel
set_option maxRecDepth 20000 in
theorem ggX10_longest_X10_ends : GoodIn wsX10_longest wsX10_ends := goodIn_r _ [5, 6, 7, 8, 9, 4, 10, 11, 12, 13, 14, 15, 16, 17, 18, 19, 20] (by decide +kernel) (by decide +kernel)
set_option maxRecDepth 20000 in
theorem gX10_longest_X10_ends : GoodIn wsX10_longest (wsV RX10 44 RX10 yX10_ends wsX10_ends) := goodIn_app (goodIn_of _ (by decide +kernel)) ggX10_longest_X10_ends
theorem dX10_longest_0 : decode cX10_longest 0 = .ok (.aload_n 0, 1) := by decide +kernel
theorem dX10_longest_1 : decode cX10_longest 1 = .ok (.iconst 0, 1) := by decide +kernel
theorem dX10_longest_2 : decode cX10_longest 2 = .ok (.iload_n 1, 1) := by decide +kernel
theorem dX10_longest_3 : decode cX10_longest 3 = .ok (.iload_n 2, 1) := by decide +kernel
theorem dX10_longest_4 : decode cX10_longest 4 = .ok (.invokevirtual 44, 3) := by decide +kernel
theorem dX10_longest_7 : decode cX10_longest 7 = .ok (.lstore_n 3, 1) := by decide +kernel
theorem dX10_longest_8 : decode cX10_longest 8 = .ok (.iload_n 1, 1) := by decide +kernel
theorem dX10_longest_9 : decode cX10_longest 9 = .ok (.istore 5, 2) := by decide +kernel
theorem dX10_longest_11 : decode cX10_longest 11 = .ok (.iload 5, 2) := by decide +kernel
theorem dX10_longest_13 : decode cX10_longest 13 = .ok (.ifCond .le 24, 3) := by decide +kernel
theorem dX10_longest_16 : decode cX10_longest 16 = .ok (.aload_n 0, 1) := by decide +kernel
theorem dX10_longest_17 : decode cX10_longest 17 = .ok (.iconst 0, 1) := by decide +kernel
theorem dX10_longest_18 : decode cX10_longest 18 = .ok (.iload 5, 2) := by decide +kernel
theorem dX10_longest_20 : decode cX10_longest 20 = .ok (.iconst 1, 1) := by decide +kernel
theorem dX10_longest_21 : decode cX10_longest 21 = .ok (.isub, 1) := by decide +kernel
theorem dX10_longest_22 : decode cX10_longest 22 = .ok (.iload_n 2, 1) := by decide +kernel
theorem dX10_longest_23 : decode cX10_longest 23 = .ok (.invokevirtual 44, 3) := by decide +kernel
theorem dX10_longest_26 : decode cX10_longest 26 = .ok (.lload_n 3, 1) := by decide +kernel
theorem dX10_longest_27 : decode cX10_longest 27 = .ok (.lcmp, 1) := by decide +kernel
theorem dX10_longest_28 : decode cX10_longest 28 = .ok (.ifCond .ne 9, 3) := by decide +kernel
theorem dX10_longest_31 : decode cX10_longest 31 = .ok (.iinc 5 (-1), 3) := by decide +kernel
theorem dX10_longest_34 : decode cX10_longest 34 = .ok (.goto (-23), 3) := by decide +kernel
theorem dX10_longest_37 : decode cX10_longest 37 = .ok (.iload_n 2, 1) := by decide +kernel
theorem dX10_longest_38 : decode cX10_longest 38 = .ok (.iload 5, 2) := by decide +kernel
theorem dX10_longest_40 : decode cX10_longest 40 = .ok (.isub, 1) := by decide +kernel
theorem dX10_longest_41 : decode cX10_longest 41 = .ok (.ireturn, 1) := by decide +kernel
set_option maxRecDepth 20000 in
theorem ggX10_shortest_X10_ends : GoodIn wsX10_shortest wsX10_ends := goodIn_r _ [5, 6, 7, 8, 9, 4, 10, 11, 12, 13, 14, 15, 16, 17, 18, 19, 20] (by decide +kernel) (by decide +kernel)
set_option maxRecDepth 20000 in
theorem gX10_shortest_X10_ends : GoodIn wsX10_shortest (wsV RX10 44 RX10 yX10_ends wsX10_ends) := goodIn_app (goodIn_of _ (by decide +kernel)) ggX10_shortest_X10_ends
theorem dX10_shortest_0 : decode cX10_shortest 0 = .ok (.aload_n 0, 1) := by decide +kernel
theorem dX10_shortest_1 : decode cX10_shortest 1 = .ok (.iconst 0, 1) := by decide +kernel
theorem dX10_shortest_2 : decode cX10_shortest 2 = .ok (.iload_n 1, 1) := by decide +kernel
theorem dX10_shortest_3 : decode cX10_shortest 3 = .ok (.iload_n 2, 1) := by decide +kernel
theorem dX10_shortest_4 : decode cX10_shortest 4 = .ok (.invokevirtual 44, 3) := by decide +kernel
theorem dX10_shortest_7 : decode cX10_shortest 7 = .ok (.lstore_n 3, 1) := by decide +kernel
theorem dX10_shortest_8 : decode cX10_shortest 8 = .ok (.iload_n 1, 1) := by decide +kernel
theorem dX10_shortest_9 : decode cX10_shortest 9 = .ok (.istore 5, 2) := by decide +kernel
theorem dX10_shortest_11 : decode cX10_shortest 11 = .ok (.iload 5, 2) := by decide +kernel
theorem dX10_shortest_13 : decode cX10_shortest 13 = .ok (.iconst 1, 1) := by decide +kernel
theorem dX10_shortest_14 : decode cX10_shortest 14 = .ok (.iadd, 1) := by decide +kernel
theorem dX10_shortest_15 : decode cX10_shortest 15 = .ok (.iload_n 2, 1) := by decide +kernel
theorem dX10_shortest_16 : decode cX10_shortest 16 = .ok (.if_icmp .ge 24, 3) := by decide +kernel
theorem dX10_shortest_19 : decode cX10_shortest 19 = .ok (.aload_n 0, 1) := by decide +kernel
theorem dX10_shortest_20 : decode cX10_shortest 20 = .ok (.iconst 0, 1) := by decide +kernel
theorem dX10_shortest_21 : decode cX10_shortest 21 = .ok (.iload 5, 2) := by decide +kernel
theorem dX10_shortest_23 : decode cX10_shortest 23 = .ok (.iconst 1, 1) := by decide +kernel
theorem dX10_shortest_24 : decode cX10_shortest 24 = .ok (.iadd, 1) := by decide +kernel
theorem dX10_shortest_25 : decode cX10_shortest 25 = .ok (.iload_n 2, 1) := by decide +kernel
theorem dX10_shortest_26 : decode cX10_shortest 26 = .ok (.invokevirtual 44, 3) := by decide +kernel
theorem dX10_shortest_29 : decode cX10_shortest 29 = .ok (.lload_n 3, 1) := by decide +kernel
theorem dX10_shortest_30 : decode cX10_shortest 30 = .ok (.lcmp, 1) := by decide +kernel
theorem dX10_shortest_31 : decode cX10_shortest 31 = .ok (.ifCond .ne 9, 3) := by decide +kernel
theorem dX10_shortest_34 : decode cX10_shortest 34 = .ok (.iinc 5 1, 3) := by decide +kernel
theorem dX10_shortest_37 : decode cX10_shortest 37 = .ok (.goto (-26), 3) := by decide +kernel
theorem dX10_shortest_40 : decode cX10_shortest 40 = .ok (.iload_n 2, 1) := by decide +kernel
theorem dX10_shortest_41 : decode cX10_shortest 41 = .ok (.iload 5, 2) := by decide +kernel
theorem dX10_shortest_43 : decode cX10_shortest 43 = .ok (.isub, 1) := by decide +kernel
theorem dX10_shortest_44 : decode cX10_shortest 44 = .ok (.ireturn, 1) := by decide +kernel
set_option maxRecDepth 20000 in
theorem ggX10_kinds_X10_isFirst : GoodIn wsX10_kinds wsX10_isFirst := goodIn_r _ [5, 6, 7, 8, 4, 9, 10, 11, 12, 13, 14, 15, 16, 17, 18, 19, 20] (by decide +kernel) (by decide +kernel)
set_option maxRecDepth 20000 in
theorem gX10_kinds_X10_isFirst : GoodIn wsX10_kinds (wsV RX10 48 RX10 yX10_isFirst wsX10_isFirst) := goodIn_app (goodIn_of _ (by decide +kernel)) ggX10_kinds_X10_isFirst
theorem dX10_kinds_0 : decode cX10_kinds 0 = .ok (.iconst 0, 1) := by decide +kernel
theorem dX10_kinds_1 : decode cX10_kinds 1 = .ok (.istore_n 3, 1) := by decide +kernel
theorem dX10_kinds_2 : decode cX10_kinds 2 = .ok (.iconst 0, 1) := by decide +kernel
theorem dX10_kinds_3 : decode cX10_kinds 3 = .ok (.istore 4, 2) := by decide +kernel
theorem dX10_kinds_5 : decode cX10_kinds 5 = .ok (.iload 4, 2) := by decide +kernel
theorem dX10_kinds_7 : decode cX10_kinds 7 = .ok (.iload_n 2, 1) := by decide +kernel
theorem dX10_kinds_8 : decode cX10_kinds 8 = .ok (.if_icmp .ge 47, 3) := by decide +kernel
theorem dX10_kinds_11 : decode cX10_kinds 11 = .ok (.iload 4, 2) := by decide +kernel
theorem dX10_kinds_13 : decode cX10_kinds 13 = .ok (.iconst 1, 1) := by decide +kernel
theorem dX10_kinds_14 : decode cX10_kinds 14 = .ok (.iadd, 1) := by decide +kernel
theorem dX10_kinds_15 : decode cX10_kinds 15 = .ok (.istore 5, 2) := by decide +kernel
theorem dX10_kinds_17 : decode cX10_kinds 17 = .ok (.iload 5, 2) := by decide +kernel
theorem dX10_kinds_19 : decode cX10_kinds 19 = .ok (.iload_n 2, 1) := by decide +kernel
theorem dX10_kinds_20 : decode cX10_kinds 20 = .ok (.if_icmp .gt 29, 3) := by decide +kernel
theorem dX10_kinds_23 : decode cX10_kinds 23 = .ok (.iload_n 3, 1) := by decide +kernel
theorem dX10_kinds_24 : decode cX10_kinds 24 = .ok (.aload_n 0, 1) := by decide +kernel
theorem dX10_kinds_25 : decode cX10_kinds 25 = .ok (.iload_n 1, 1) := by decide +kernel
theorem dX10_kinds_26 : decode cX10_kinds 26 = .ok (.iload 4, 2) := by decide +kernel
theorem dX10_kinds_28 : decode cX10_kinds 28 = .ok (.iload 5, 2) := by decide +kernel
theorem dX10_kinds_30 : decode cX10_kinds 30 = .ok (.invokevirtual 48, 3) := by decide +kernel
theorem dX10_kinds_33 : decode cX10_kinds 33 = .ok (.ifCond .eq 7, 3) := by decide +kernel
theorem dX10_kinds_36 : decode cX10_kinds 36 = .ok (.iconst 1, 1) := by decide +kernel
theorem dX10_kinds_37 : decode cX10_kinds 37 = .ok (.goto 4, 3) := by decide +kernel
theorem dX10_kinds_40 : decode cX10_kinds 40 = .ok (.iconst 0, 1) := by decide +kernel
theorem dX10_kinds_41 : decode cX10_kinds 41 = .ok (.iadd, 1) := by decide +kernel
theorem dX10_kinds_42 : decode cX10_kinds 42 = .ok (.istore_n 3, 1) := by decide +kernel
theorem dX10_kinds_43 : decode cX10_kinds 43 = .ok (.iinc 5 1, 3) := by decide +kernel
theorem dX10_kinds_46 : decode cX10_kinds 46 = .ok (.goto (-29), 3) := by decide +kernel
theorem dX10_kinds_49 : decode cX10_kinds 49 = .ok (.iinc 4 1, 3) := by decide +kernel
theorem dX10_kinds_52 : decode cX10_kinds 52 = .ok (.goto (-47), 3) := by decide +kernel
theorem dX10_kinds_55 : decode cX10_kinds 55 = .ok (.iload_n 3, 1) := by decide +kernel
theorem dX10_kinds_56 : decode cX10_kinds 56 = .ok (.ireturn, 1) := by decide +kernel
set_option maxRecDepth 20000 in
theorem ggX10_classes_X10_isFirst : GoodIn wsX10_classes wsX10_isFirst := goodIn_r _ [6, 7, 8, 9, 5, 10, 11, 12, 13, 14, 1, 23, 24, 25, 26, 27, 28] (by decide +kernel) (by decide +kernel)
set_option maxRecDepth 20000 in
theorem gX10_classes_X10_isFirst : GoodIn wsX10_classes (wsV RX10 48 RX10 yX10_isFirst wsX10_isFirst) := goodIn_app (goodIn_of _ (by decide +kernel)) ggX10_classes_X10_isFirst
set_option maxRecDepth 20000 in
theorem ggX10_classes_X10_longest : GoodIn wsX10_classes wsX10_longest := goodIn_r _ [18, 19, 20, 21, 5, 22, 1, 7, 8, 9, 10, 11, 12, 13, 14, 23, 24, 25, 26, 27, 28] (by decide +kernel) (by decide +kernel)
set_option maxRecDepth 20000 in
theorem gX10_classes_X10_longest : GoodIn wsX10_classes (wsV RX10 51 RX10 yX10_longest wsX10_longest) := goodIn_app (goodIn_of _ (by decide +kernel)) ggX10_classes_X10_longest
theorem dX10_classes_0 : decode cX10_classes 0 = .ok (.iconst 0, 1) := by decide +kernel
theorem dX10_classes_1 : decode cX10_classes 1 = .ok (.istore_n 1, 1) := by decide +kernel
theorem dX10_classes_2 : decode cX10_classes 2 = .ok (.iconst 0, 1) := by decide +kernel
theorem dX10_classes_3 : decode cX10_classes 3 = .ok (.istore_n 2, 1) := by decide +kernel
theorem dX10_classes_4 : decode cX10_classes 4 = .ok (.iload_n 2, 1) := by decide +kernel
theorem dX10_classes_5 : decode cX10_classes 5 = .ok (.aload_n 0, 1) := by decide +kernel
theorem dX10_classes_6 : decode cX10_classes 6 = .ok (.getfield 7, 3) := by decide +kernel
theorem dX10_classes_9 : decode cX10_classes 9 = .ok (.iconst 0, 1) := by decide +kernel
theorem dX10_classes_10 : decode cX10_classes 10 = .ok (.iaload, 1) := by decide +kernel
theorem dX10_classes_11 : decode cX10_classes 11 = .ok (.if_icmp .ge 59, 3) := by decide +kernel
theorem dX10_classes_14 : decode cX10_classes 14 = .ok (.iload_n 2, 1) := by decide +kernel
theorem dX10_classes_15 : decode cX10_classes 15 = .ok (.iconst 1, 1) := by decide +kernel
theorem dX10_classes_16 : decode cX10_classes 16 = .ok (.iadd, 1) := by decide +kernel
theorem dX10_classes_17 : decode cX10_classes 17 = .ok (.istore_n 3, 1) := by decide +kernel
theorem dX10_classes_18 : decode cX10_classes 18 = .ok (.iload_n 3, 1) := by decide +kernel
theorem dX10_classes_19 : decode cX10_classes 19 = .ok (.aload_n 0, 1) := by decide +kernel
theorem dX10_classes_20 : decode cX10_classes 20 = .ok (.getfield 7, 3) := by decide +kernel
theorem dX10_classes_23 : decode cX10_classes 23 = .ok (.iconst 0, 1) := by decide +kernel
theorem dX10_classes_24 : decode cX10_classes 24 = .ok (.iaload, 1) := by decide +kernel
theorem dX10_classes_25 : decode cX10_classes 25 = .ok (.if_icmp .gt 39, 3) := by decide +kernel
theorem dX10_classes_28 : decode cX10_classes 28 = .ok (.iload_n 1, 1) := by decide +kernel
theorem dX10_classes_29 : decode cX10_classes 29 = .ok (.aload_n 0, 1) := by decide +kernel
theorem dX10_classes_30 : decode cX10_classes 30 = .ok (.iconst 0, 1) := by decide +kernel
theorem dX10_classes_31 : decode cX10_classes 31 = .ok (.iload_n 2, 1) := by decide +kernel
theorem dX10_classes_32 : decode cX10_classes 32 = .ok (.iload_n 3, 1) := by decide +kernel
theorem dX10_classes_33 : decode cX10_classes 33 = .ok (.invokevirtual 48, 3) := by decide +kernel
theorem dX10_classes_36 : decode cX10_classes 36 = .ok (.ifCond .eq 19, 3) := by decide +kernel
theorem dX10_classes_39 : decode cX10_classes 39 = .ok (.aload_n 0, 1) := by decide +kernel
theorem dX10_classes_40 : decode cX10_classes 40 = .ok (.iload_n 2, 1) := by decide +kernel
theorem dX10_classes_41 : decode cX10_classes 41 = .ok (.iload_n 3, 1) := by decide +kernel
theorem dX10_classes_42 : decode cX10_classes 42 = .ok (.invokevirtual 51, 3) := by decide +kernel
theorem dX10_classes_45 : decode cX10_classes 45 = .ok (.iload_n 3, 1) := by decide +kernel
theorem dX10_classes_46 : decode cX10_classes 46 = .ok (.iload_n 2, 1) := by decide +kernel
theorem dX10_classes_47 : decode cX10_classes 47 = .ok (.isub, 1) := by decide +kernel
theorem dX10_classes_48 : decode cX10_classes 48 = .ok (.if_icmp .ne 7, 3) := by decide +kernel
theorem dX10_classes_51 : decode cX10_classes 51 = .ok (.iconst 1, 1) := by decide +kernel
theorem dX10_classes_52 : decode cX10_classes 52 = .ok (.goto 4, 3) := by decide +kernel
theorem dX10_classes_55 : decode cX10_classes 55 = .ok (.iconst 0, 1) := by decide +kernel
theorem dX10_classes_56 : decode cX10_classes 56 = .ok (.iadd, 1) := by decide +kernel
theorem dX10_classes_57 : decode cX10_classes 57 = .ok (.istore_n 1, 1) := by decide +kernel
