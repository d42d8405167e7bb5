theorem dX10_load_12 : decode cX10_load 12 = .ok (.isub, 1) := by decide +kernel
theorem dX10_load_13 : decode cX10_load 13 = .ok (.ireturn, 1) := by decide +kernel
theorem dX10_load_14 : decode cX10_load 14 = .ok (.aload_n 0, 1) := by decide +kernel
theorem dX10_load_15 : decode cX10_load 15 = .ok (.invokevirtual 74, 3) := by decide +kernel
theorem dX10_load_18 : decode cX10_load 18 = .ok (.aload_n 0, 1) := by decide +kernel
theorem dX10_load_19 : decode cX10_load 19 = .ok (.bipush 6, 2) := by decide +kernel
theorem dX10_load_21 : decode cX10_load 21 = .ok (.iconst 0, 1) := by decide +kernel
theorem dX10_load_22 : decode cX10_load 22 = .ok (.invokevirtual 24, 3) := by decide +kernel
theorem dX10_load_25 : decode cX10_load 25 = .ok (.aload_n 0, 1) := by decide +kernel
theorem dX10_load_26 : decode cX10_load 26 = .ok (.getfield 7, 3) := by decide +kernel
theorem dX10_load_29 : decode cX10_load 29 = .ok (.iconst 0, 1) := by decide +kernel
theorem dX10_load_30 : decode cX10_load 30 = .ok (.iaload, 1) := by decide +kernel
theorem dX10_load_31 : decode cX10_load 31 = .ok (.ireturn, 1) := by decide +kernel
theorem dX10_type_0 : decode cX10_type 0 = .ok (.aload_n 0, 1) := by decide +kernel
theorem dX10_type_1 : decode cX10_type 1 = .ok (.getfield 88, 3) := by decide +kernel
theorem dX10_type_4 : decode cX10_type 4 = .ok (.bipush 60, 2) := by decide +kernel
theorem dX10_type_6 : decode cX10_type 6 = .ok (.if_icmp .ne 6, 3) := by decide +kernel
theorem dX10_type_9 : decode cX10_type 9 = .ok (.bipush (-3), 2) := by decide +kernel
theorem dX10_type_11 : decode cX10_type 11 = .ok (.ireturn, 1) := by decide +kernel
theorem dX10_type_12 : decode cX10_type 12 = .ok (.aload_n 0, 1) := by decide +kernel
theorem dX10_type_13 : decode cX10_type 13 = .ok (.getfield 13, 3) := by decide +kernel
theorem dX10_type_16 : decode cX10_type 16 = .ok (.aload_n 0, 1) := by decide +kernel
theorem dX10_type_17 : decode cX10_type 17 = .ok (.getfield 88, 3) := by decide +kernel
theorem dX10_type_20 : decode cX10_type 20 = .ok (.iload_n 1, 1) := by decide +kernel
theorem dX10_type_21 : decode cX10_type 21 = .ok (.castore, 1) := by decide +kernel
theorem dX10_type_22 : decode cX10_type 22 = .ok (.aload_n 0, 1) := by decide +kernel
theorem dX10_type_23 : decode cX10_type 23 = .ok (.dup, 1) := by decide +kernel
theorem dX10_type_24 : decode cX10_type 24 = .ok (.getfield 88, 3) := by decide +kernel
theorem dX10_type_27 : decode cX10_type 27 = .ok (.iconst 1, 1) := by decide +kernel
theorem dX10_type_28 : decode cX10_type 28 = .ok (.iadd, 1) := by decide +kernel
theorem dX10_type_29 : decode cX10_type 29 = .ok (.putfield 88, 3) := by decide +kernel
theorem dX10_type_32 : decode cX10_type 32 = .ok (.aload_n 0, 1) := by decide +kernel
theorem dX10_type_33 : decode cX10_type 33 = .ok (.getfield 88, 3) := by decide +kernel
theorem dX10_type_36 : decode cX10_type 36 = .ok (.ireturn, 1) := by decide +kernel
theorem dX10_clearText_0 : decode cX10_clearText 0 = .ok (.aload_n 0, 1) := by decide +kernel
theorem dX10_clearText_1 : decode cX10_clearText 1 = .ok (.getfield 88, 3) := by decide +kernel
theorem dX10_clearText_4 : decode cX10_clearText 4 = .ok (.istore_n 1, 1) := by decide +kernel
theorem dX10_clearText_5 : decode cX10_clearText 5 = .ok (.aload_n 0, 1) := by decide +kernel
theorem dX10_clearText_6 : decode cX10_clearText 6 = .ok (.iconst 0, 1) := by decide +kernel
theorem dX10_clearText_7 : decode cX10_clearText 7 = .ok (.putfield 88, 3) := by decide +kernel
theorem dX10_clearText_10 : decode cX10_clearText 10 = .ok (.iload_n 1, 1) := by decide +kernel
theorem dX10_clearText_11 : decode cX10_clearText 11 = .ok (.ireturn, 1) := by decide +kernel
set_option maxRecDepth 20000 in
theorem ggX10_undo_X10_copies : GoodIn wsX10_undo wsX10_copies := goodIn_r _ [6, 7, 8, 9, 10, 11, 12, 13] (by decide +kernel) (by decide +kernel)
set_option maxRecDepth 20000 in
theorem gX10_undo_X10_copies : GoodIn wsX10_undo (wsV RX10 24 RX10 yX10_copies wsX10_copies) := goodIn_app (goodIn_of _ (by decide +kernel)) ggX10_undo_X10_copies
theorem dX10_undo_0 : decode cX10_undo 0 = .ok (.aload_n 0, 1) := by decide +kernel
theorem dX10_undo_1 : decode cX10_undo 1 = .ok (.getfield 20, 3) := by decide +kernel
theorem dX10_undo_4 : decode cX10_undo 4 = .ok (.ifCond .ne 6, 3) := by decide +kernel
theorem dX10_undo_7 : decode cX10_undo 7 = .ok (.bipush (-4), 2) := by decide +kernel
theorem dX10_undo_9 : decode cX10_undo 9 = .ok (.ireturn, 1) := by decide +kernel
theorem dX10_undo_10 : decode cX10_undo 10 = .ok (.aload_n 0, 1) := by decide +kernel
theorem dX10_undo_11 : decode cX10_undo 11 = .ok (.aload_n 0, 1) := by decide +kernel
theorem dX10_undo_12 : decode cX10_undo 12 = .ok (.getfield 20, 3) := by decide +kernel
theorem dX10_undo_15 : decode cX10_undo 15 = .ok (.iconst 0, 1) := by decide +kernel
theorem dX10_undo_16 : decode cX10_undo 16 = .ok (.invokevirtual 24, 3) := by decide +kernel
theorem dX10_undo_19 : decode cX10_undo 19 = .ok (.aload_n 0, 1) := by decide +kernel
theorem dX10_undo_20 : decode cX10_undo 20 = .ok (.dup, 1) := by decide +kernel
theorem dX10_undo_21 : decode cX10_undo 21 = .ok (.getfield 20, 3) := by decide +kernel
theorem dX10_undo_24 : decode cX10_undo 24 = .ok (.iconst 1, 1) := by decide +kernel
theorem dX10_undo_25 : decode cX10_undo 25 = .ok (.isub, 1) := by decide +kernel
theorem dX10_undo_26 : decode cX10_undo 26 = .ok (.putfield 20, 3) := by decide +kernel
theorem dX10_undo_29 : decode cX10_undo 29 = .ok (.aload_n 0, 1) := by decide +kernel
theorem dX10_undo_30 : decode cX10_undo 30 = .ok (.getfield 20, 3) := by decide +kernel
theorem dX10_undo_33 : decode cX10_undo 33 = .ok (.ireturn, 1) := by decide +kernel
set_option maxRecDepth 20000 in
theorem ggX10_keep_X10_copies : GoodIn wsX10_keep wsX10_copies := goodIn_r _ [7, 2, 8, 9, 10, 11, 12, 13] (by decide +kernel) (by decide +kernel)
set_option maxRecDepth 20000 in
theorem gX10_keep_X10_copies : GoodIn wsX10_keep (wsV RX10 24 RX10 yX10_copies wsX10_copies) := goodIn_app (goodIn_of _ (by decide +kernel)) ggX10_keep_X10_copies
theorem dX10_keep_0 : decode cX10_keep 0 = .ok (.aload_n 0, 1) := by decide +kernel
theorem dX10_keep_1 : decode cX10_keep 1 = .ok (.iconst 0, 1) := by decide +kernel
theorem dX10_keep_2 : decode cX10_keep 2 = .ok (.iconst 5, 1) := by decide +kernel
theorem dX10_keep_3 : decode cX10_keep 3 = .ok (.invokevirtual 24, 3) := by decide +kernel
theorem dX10_keep_6 : decode cX10_keep 6 = .ok (.aload_n 0, 1) := by decide +kernel
theorem dX10_keep_7 : decode cX10_keep 7 = .ok (.iconst 1, 1) := by decide +kernel
theorem dX10_keep_8 : decode cX10_keep 8 = .ok (.putfield 98, 3) := by decide +kernel
theorem dX10_keep_11 : decode cX10_keep 11 = .ok (.aload_n 0, 1) := by decide +kernel
theorem dX10_keep_12 : decode cX10_keep 12 = .ok (.getfield 7, 3) := by decide +kernel
theorem dX10_keep_15 : decode cX10_keep 15 = .ok (.iconst 0, 1) := by decide +kernel
theorem dX10_keep_16 : decode cX10_keep 16 = .ok (.iaload, 1) := by decide +kernel
theorem dX10_keep_17 : decode cX10_keep 17 = .ok (.ireturn, 1) := by decide +kernel
set_option maxRecDepth 20000 in
theorem ggX10_restore_X10_records : GoodIn wsX10_restore wsX10_records := goodIn_r _ [7, 8, 9, 10, 11, 6, 12, 2, 13, 14, 15, 16, 17, 18] (by decide +kernel) (by decide +kernel)
set_option maxRecDepth 20000 in
theorem gX10_restore_X10_records : GoodIn wsX10_restore (wsV RX10 74 RX10 yX10_records wsX10_records) := goodIn_app (goodIn_of _ (by decide +kernel)) ggX10_restore_X10_records
set_option maxRecDepth 20000 in
theorem ggX10_restore_X10_copies : GoodIn wsX10_restore wsX10_copies := goodIn_r _ [12, 2, 13, 14, 15, 16, 17, 18] (by decide +kernel) (by decide +kernel)
set_option maxRecDepth 20000 in
theorem gX10_restore_X10_copies : GoodIn wsX10_restore (wsV RX10 24 RX10 yX10_copies wsX10_copies) := goodIn_app (goodIn_of _ (by decide +kernel)) ggX10_restore_X10_copies
theorem dX10_restore_0 : decode cX10_restore 0 = .ok (.aload_n 0, 1) := by decide +kernel
theorem dX10_restore_1 : decode cX10_restore 1 = .ok (.getfield 98, 3) := by decide +kernel
theorem dX10_restore_4 : decode cX10_restore 4 = .ok (.ifCond .ne 6, 3) := by decide +kernel
theorem dX10_restore_7 : decode cX10_restore 7 = .ok (.bipush (-4), 2) := by decide +kernel
theorem dX10_restore_9 : decode cX10_restore 9 = .ok (.ireturn, 1) := by decide +kernel
theorem dX10_restore_10 : decode cX10_restore 10 = .ok (.aload_n 0, 1) := by decide +kernel
theorem dX10_restore_11 : decode cX10_restore 11 = .ok (.invokevirtual 74, 3) := by decide +kernel
theorem dX10_restore_14 : decode cX10_restore 14 = .ok (.aload_n 0, 1) := by decide +kernel
theorem dX10_restore_15 : decode cX10_restore 15 = .ok (.iconst 5, 1) := by decide +kernel
theorem dX10_restore_16 : decode cX10_restore 16 = .ok (.iconst 0, 1) := by decide +kernel
theorem dX10_restore_17 : decode cX10_restore 17 = .ok (.invokevirtual 24, 3) := by decide +kernel
theorem dX10_restore_20 : decode cX10_restore 20 = .ok (.aload_n 0, 1) := by decide +kernel
theorem dX10_restore_21 : decode cX10_restore 21 = .ok (.getfield 7, 3) := by decide +kernel
theorem dX10_restore_24 : decode cX10_restore 24 = .ok (.iconst 0, 1) := by decide +kernel
theorem dX10_restore_25 : decode cX10_restore 25 = .ok (.iaload, 1) := by decide +kernel
theorem dX10_restore_26 : decode cX10_restore 26 = .ok (.ireturn, 1) := by decide +kernel
set_option maxRecDepth 20000 in
theorem ggX10_at_X10_isPlace : GoodIn wsX10_at wsX10_isPlace := goodIn_r _ [5, 6, 7, 8, 4, 9, 59, 60, 61, 62, 63, 64] (by decide +kernel) (by decide +kernel)
set_option maxRecDepth 20000 in
theorem gX10_at_X10_isPlace : GoodIn wsX10_at (wsV RX10 77 RX10 yX10_isPlace wsX10_isPlace) := goodIn_app (goodIn_of _ (by decide +kernel)) ggX10_at_X10_isPlace
set_option maxRecDepth 20000 in
theorem ggX10_at_X10_letAt : GoodIn wsX10_at wsX10_letAt := goodIn_r _ [13, 6, 59, 60, 61, 62, 63, 64] (by decide +kernel) (by decide +kernel)
set_option maxRecDepth 20000 in
theorem gX10_at_X10_letAt : GoodIn wsX10_at (wsV RX10 32 RX10 yX10_letAt wsX10_letAt) := goodIn_app (goodIn_of _ (by decide +kernel)) ggX10_at_X10_letAt
set_option maxRecDepth 20000 in
theorem ggX10_at_X10_rankOf : GoodIn wsX10_at wsX10_rankOf := goodIn_r _ [17, 6, 18, 19, 20, 21, 4, 22, 23, 24, 25, 26, 27, 28, 29, 30, 10, 11, 12, 13, 59, 60, 61, 62, 63, 64] (by decide +kernel) (by decide +kernel)
set_option maxRecDepth 20000 in
theorem gX10_at_X10_rankOf : GoodIn wsX10_at (wsV RX10 102 RX10 yX10_rankOf wsX10_rankOf) := goodIn_app (goodIn_of _ (by decide +kernel)) ggX10_at_X10_rankOf
set_option maxRecDepth 20000 in
theorem ggX10_at_X10_runsOver : GoodIn wsX10_at wsX10_runsOver := goodIn_r _ [34, 6, 35, 36, 37, 4, 38, 10, 11, 12, 13, 39, 40, 41, 42, 43, 44, 45, 46, 47, 48, 49, 50, 59, 60, 61, 62, 63, 64] (by decide +kernel) (by decide +kernel)
set_option maxRecDepth 20000 in
theorem gX10_at_X10_runsOver : GoodIn wsX10_at (wsV RX10 106 RX10 yX10_runsOver wsX10_runsOver) := goodIn_app (goodIn_of _ (by decide +kernel)) ggX10_at_X10_runsOver
set_option maxRecDepth 20000 in
theorem ggX10_at_X10_squares : GoodIn wsX10_at wsX10_squares := goodIn_r _ [54, 6, 55, 56, 57, 4, 58, 47, 48, 49, 50, 10, 11, 12, 13, 59, 60, 61, 62, 63, 64] (by decide +kernel) (by decide +kernel)
set_option maxRecDepth 20000 in
theorem gX10_at_X10_squares : GoodIn wsX10_at (wsV RX10 109 RX10 yX10_squares wsX10_squares) := goodIn_app (goodIn_of _ (by decide +kernel)) ggX10_at_X10_squares
theorem dX10_at_0 : decode cX10_at 0 = .ok (.aload_n 0, 1) := by decide +kernel
theorem dX10_at_1 : decode cX10_at 1 = .ok (.iload_n 1, 1) := by decide +kernel
theorem dX10_at_2 : decode cX10_at 2 = .ok (.invokevirtual 77, 3) := by decide +kernel
theorem dX10_at_5 : decode cX10_at 5 = .ok (.ifCond .ne 5, 3) := by decide +kernel
theorem dX10_at_8 : decode cX10_at 8 = .ok (.iconst (-1), 1) := by decide +kernel
theorem dX10_at_9 : decode cX10_at 9 = .ok (.ireturn, 1) := by decide +kernel
theorem dX10_at_10 : decode cX10_at 10 = .ok (.iload_n 2, 1) := by decide +kernel
theorem dX10_at_11 : decode cX10_at 11 = .ok (.tableswitch 57 0 3 #[29, 36, 42, 48], 29) := by decide +kernel
theorem dX10_at_40 : decode cX10_at 40 = .ok (.aload_n 0, 1) := by decide +kernel
theorem dX10_at_41 : decode cX10_at 41 = .ok (.iconst 0, 1) := by decide +kernel
theorem dX10_at_42 : decode cX10_at 42 = .ok (.iload_n 1, 1) := by decide +kernel
theorem dX10_at_43 : decode cX10_at 43 = .ok (.invokevirtual 32, 3) := by decide +kernel
theorem dX10_at_46 : decode cX10_at 46 = .ok (.ireturn, 1) := by decide +kernel
theorem dX10_at_47 : decode cX10_at 47 = .ok (.aload_n 0, 1) := by decide +kernel
theorem dX10_at_48 : decode cX10_at 48 = .ok (.iload_n 1, 1) := by decide +kernel
theorem dX10_at_49 : decode cX10_at 49 = .ok (.invokevirtual 102, 3) := by decide +kernel
theorem dX10_at_52 : decode cX10_at 52 = .ok (.ireturn, 1) := by decide +kernel
theorem dX10_at_53 : decode cX10_at 53 = .ok (.aload_n 0, 1) := by decide +kernel
theorem dX10_at_54 : decode cX10_at 54 = .ok (.iload_n 1, 1) := by decide +kernel
theorem dX10_at_55 : decode cX10_at 55 = .ok (.invokevirtual 106, 3) := by decide +kernel
theorem dX10_at_58 : decode cX10_at 58 = .ok (.ireturn, 1) := by decide +kernel
theorem dX10_at_59 : decode cX10_at 59 = .ok (.aload_n 0, 1) := by decide +kernel
theorem dX10_at_60 : decode cX10_at 60 = .ok (.iconst 0, 1) := by decide +kernel
theorem dX10_at_61 : decode cX10_at 61 = .ok (.iload_n 1, 1) := by decide +kernel
theorem dX10_at_62 : decode cX10_at 62 = .ok (.iconst 1, 1) := by decide +kernel
theorem dX10_at_63 : decode cX10_at 63 = .ok (.iadd, 1) := by decide +kernel
theorem dX10_at_64 : decode cX10_at 64 = .ok (.invokevirtual 109, 3) := by decide +kernel
theorem dX10_at_67 : decode cX10_at 67 = .ok (.ireturn, 1) := by decide +kernel
theorem dX10_at_68 : decode cX10_at 68 = .ok (.bipush (-2), 2) := by decide +kernel
theorem dX10_at_70 : decode cX10_at 70 = .ok (.ireturn, 1) := by decide +kernel
set_option maxRecDepth 20000 in
theorem ggX10_border_X10_in : GoodIn wsX10_border wsX10_in := goodIn_r _ [5] (by decide +kernel) (by decide +kernel)
set_option maxRecDepth 20000 in
theorem gX10_border_X10_in : GoodIn wsX10_border (va_wsS RX10 28 yX10_in wsX10_in) := goodIn_app (goodIn_of _ (by decide +kernel)) ggX10_border_X10_in
set_option maxRecDepth 20000 in
theorem ggX10_border_X10_edge : GoodIn wsX10_border wsX10_edge := goodIn_r _ [9, 10, 11, 12, 4, 13, 14, 15, 16, 17, 1, 18, 19, 20, 21, 22, 23] (by decide +kernel) (by decide +kernel)
set_option maxRecDepth 20000 in
theorem gX10_border_X10_edge : GoodIn wsX10_border (wsV RX10 40 RX10 yX10_edge wsX10_edge) := goodIn_app (goodIn_of _ (by decide +kernel)) ggX10_border_X10_edge
theorem dX10_border_0 : decode cX10_border 0 = .ok (.iload_n 1, 1) := by decide +kernel
theorem dX10_border_1 : decode cX10_border 1 = .ok (.iconst 1, 1) := by decide +kernel
theorem dX10_border_2 : decode cX10_border 2 = .ok (.aload_n 0, 1) := by decide +kernel
theorem dX10_border_3 : decode cX10_border 3 = .ok (.getfield 7, 3) := by decide +kernel
theorem dX10_border_6 : decode cX10_border 6 = .ok (.iconst 0, 1) := by decide +kernel
theorem dX10_border_7 : decode cX10_border 7 = .ok (.iaload, 1) := by decide +kernel
theorem dX10_border_8 : decode cX10_border 8 = .ok (.invokestatic 28, 3) := by decide +kernel
theorem dX10_border_11 : decode cX10_border 11 = .ok (.ifCond .ne 5, 3) := by decide +kernel
theorem dX10_border_14 : decode cX10_border 14 = .ok (.iconst (-1), 1) := by decide +kernel
theorem dX10_border_15 : decode cX10_border 15 = .ok (.ireturn, 1) := by decide +kernel
theorem dX10_border_16 : decode cX10_border 16 = .ok (.iload_n 2, 1) := by decide +kernel
theorem dX10_border_17 : decode cX10_border 17 = .ok (.ifCond .ge 6, 3) := by decide +kernel
theorem dX10_border_20 : decode cX10_border 20 = .ok (.bipush (-2), 2) := by decide +kernel
theorem dX10_border_22 : decode cX10_border 22 = .ok (.ireturn, 1) := by decide +kernel
theorem dX10_border_23 : decode cX10_border 23 = .ok (.iload_n 1, 1) := by decide +kernel
theorem dX10_border_24 : decode cX10_border 24 = .ok (.istore_n 3, 1) := by decide +kernel
theorem dX10_border_25 : decode cX10_border 25 = .ok (.iconst 0, 1) := by decide +kernel
theorem dX10_border_26 : decode cX10_border 26 = .ok (.istore 4, 2) := by decide +kernel
theorem dX10_border_28 : decode cX10_border 28 = .ok (.iload 4, 2) := by decide +kernel
theorem dX10_border_30 : decode cX10_border 30 = .ok (.iload_n 2, 1) := by decide +kernel
theorem dX10_border_31 : decode cX10_border 31 = .ok (.if_icmp .gt 22, 3) := by decide +kernel
theorem dX10_border_34 : decode cX10_border 34 = .ok (.iload_n 3, 1) := by decide +kernel
theorem dX10_border_35 : decode cX10_border 35 = .ok (.ifCond .le 18, 3) := by decide +kernel
theorem dX10_border_38 : decode cX10_border 38 = .ok (.aload_n 0, 1) := by decide +kernel
theorem dX10_border_39 : decode cX10_border 39 = .ok (.iconst 0, 1) := by decide +kernel
theorem dX10_border_40 : decode cX10_border 40 = .ok (.iconst 0, 1) := by decide +kernel
theorem dX10_border_41 : decode cX10_border 41 = .ok (.iload_n 1, 1) := by decide +kernel
theorem dX10_border_42 : decode cX10_border 42 = .ok (.iload_n 3, 1) := by decide +kernel
theorem dX10_border_43 : decode cX10_border 43 = .ok (.invokevirtual 40, 3) := by decide +kernel
theorem dX10_border_46 : decode cX10_border 46 = .ok (.istore_n 3, 1) := by decide +kernel
theorem dX10_border_47 : decode cX10_border 47 = .ok (.iinc 4 1, 3) := by decide +kernel
theorem dX10_border_50 : decode cX10_border 50 = .ok (.goto (-22), 3) := by decide +kernel
theorem dX10_border_53 : decode cX10_border 53 = .ok (.iload_n 3, 1) := by decide +kernel
theorem dX10_border_54 : decode cX10_border 54 = .ok (.ifCond .le 7, 3) := by decide +kernel
theorem dX10_border_57 : decode cX10_border 57 = .ok (.iload_n 3, 1) := by decide +kernel
theorem dX10_border_58 : decode cX10_border 58 = .ok (.goto 5, 3) := by decide +kernel
theorem dX10_border_61 : decode cX10_border 61 = .ok (.bipush (-4), 2) := by decide +kernel
theorem dX10_border_63 : decode cX10_border 63 = .ok (.ireturn, 1) := by decide +kernel
theorem dX10_bits_0 : decode cX10_bits 0 = .ok (.iconst 0, 1) := by decide +kernel
theorem dX10_bits_1 : decode cX10_bits 1 = .ok (.istore_n 3, 1) := by decide +kernel
theorem dX10_bits_2 : decode cX10_bits 2 = .ok (.iconst 0, 1) := by decide +kernel
theorem dX10_bits_3 : decode cX10_bits 3 = .ok (.istore 4, 2) := by decide +kernel
theorem dX10_bits_5 : decode cX10_bits 5 = .ok (.iload 4, 2) := by decide +kernel
theorem dX10_bits_7 : decode cX10_bits 7 = .ok (.bipush 40, 2) := by decide +kernel
theorem dX10_bits_9 : decode cX10_bits 9 = .ok (.if_icmp .gt 19, 3) := by decide +kernel
theorem dX10_bits_12 : decode cX10_bits 12 = .ok (.iload_n 3, 1) := by decide +kernel
theorem dX10_bits_13 : decode cX10_bits 13 = .ok (.lload_n 1, 1) := by decide +kernel
theorem dX10_bits_14 : decode cX10_bits 14 = .ok (.iload 4, 2) := by decide +kernel
theorem dX10_bits_16 : decode cX10_bits 16 = .ok (.lshr, 1) := by decide +kernel
theorem dX10_bits_17 : decode cX10_bits 17 = .ok (.lconst 1, 1) := by decide +kernel
theorem dX10_bits_18 : decode cX10_bits 18 = .ok (.land, 1) := by decide +kernel
theorem dX10_bits_19 : decode cX10_bits 19 = .ok (.l2i, 1) := by decide +kernel
theorem dX10_bits_20 : decode cX10_bits 20 = .ok (.iadd, 1) := by decide +kernel
theorem dX10_bits_21 : decode cX10_bits 21 = .ok (.istore_n 3, 1) := by decide +kernel
theorem dX10_bits_22 : decode cX10_bits 22 = .ok (.iinc 4 1, 3) := by decide +kernel
theorem dX10_bits_25 : decode cX10_bits 25 = .ok (.goto (-20), 3) := by decide +kernel
theorem dX10_bits_28 : decode cX10_bits 28 = .ok (.iload_n 3, 1) := by decide +kernel
theorem dX10_bits_29 : decode cX10_bits 29 = .ok (.ireturn, 1) := by decide +kernel
theorem dX10_edgeOf_0 : decode cX10_edgeOf 0 = .ok (.iconst 0, 1) := by decide +kernel
theorem dX10_edgeOf_1 : decode cX10_edgeOf 1 = .ok (.istore 4, 2) := by decide +kernel
theorem dX10_edgeOf_3 : decode cX10_edgeOf 3 = .ok (.iconst 0, 1) := by decide +kernel
theorem dX10_edgeOf_4 : decode cX10_edgeOf 4 = .ok (.istore 5, 2) := by decide +kernel
theorem dX10_edgeOf_6 : decode cX10_edgeOf 6 = .ok (.iload 5, 2) := by decide +kernel
theorem dX10_edgeOf_8 : decode cX10_edgeOf 8 = .ok (.bipush 40, 2) := by decide +kernel
theorem dX10_edgeOf_10 : decode cX10_edgeOf 10 = .ok (.if_icmp .gt 45, 3) := by decide +kernel
theorem dX10_edgeOf_13 : decode cX10_edgeOf 13 = .ok (.iload_n 3, 1) := by decide +kernel
theorem dX10_edgeOf_14 : decode cX10_edgeOf 14 = .ok (.ifCond .eq 11, 3) := by decide +kernel
theorem dX10_edgeOf_17 : decode cX10_edgeOf 17 = .ok (.bipush 40, 2) := by decide +kernel
theorem dX10_edgeOf_19 : decode cX10_edgeOf 19 = .ok (.iload 5, 2) := by decide +kernel
theorem dX10_edgeOf_21 : decode cX10_edgeOf 21 = .ok (.isub, 1) := by decide +kernel
theorem dX10_edgeOf_22 : decode cX10_edgeOf 22 = .ok (.goto 5, 3) := by decide +kernel
theorem dX10_edgeOf_25 : decode cX10_edgeOf 25 = .ok (.iload 5, 2) := by decide +kernel
theorem dX10_edgeOf_27 : decode cX10_edgeOf 27 = .ok (.istore 6, 2) := by decide +kernel
theorem dX10_edgeOf_29 : decode cX10_edgeOf 29 = .ok (.lload_n 1, 1) := by decide +kernel
theorem dX10_edgeOf_30 : decode cX10_edgeOf 30 = .ok (.iload 6, 2) := by decide +kernel
theorem dX10_edgeOf_32 : decode cX10_edgeOf 32 = .ok (.lshr, 1) := by decide +kernel
theorem dX10_edgeOf_33 : decode cX10_edgeOf 33 = .ok (.lconst 1, 1) := by decide +kernel
theorem dX10_edgeOf_34 : decode cX10_edgeOf 34 = .ok (.land, 1) := by decide +kernel
theorem dX10_edgeOf_35 : decode cX10_edgeOf 35 = .ok (.lconst 1, 1) := by decide +kernel
theorem dX10_edgeOf_36 : decode cX10_edgeOf 36 = .ok (.lcmp, 1) := by decide +kernel
theorem dX10_edgeOf_37 : decode cX10_edgeOf 37 = .ok (.ifCond .ne 8, 3) := by decide +kernel
theorem dX10_edgeOf_40 : decode cX10_edgeOf 40 = .ok (.iload 6, 2) := by decide +kernel
theorem dX10_edgeOf_42 : decode cX10_edgeOf 42 = .ok (.goto 5, 3) := by decide +kernel
theorem dX10_edgeOf_45 : decode cX10_edgeOf 45 = .ok (.iload 4, 2) := by decide +kernel
theorem dX10_edgeOf_47 : decode cX10_edgeOf 47 = .ok (.istore 4, 2) := by decide +kernel
theorem dX10_edgeOf_49 : decode cX10_edgeOf 49 = .ok (.iinc 5 1, 3) := by decide +kernel
theorem dX10_edgeOf_52 : decode cX10_edgeOf 52 = .ok (.goto (-46), 3) := by decide +kernel
theorem dX10_edgeOf_55 : decode cX10_edgeOf 55 = .ok (.iload 4, 2) := by decide +kernel
theorem dX10_edgeOf_57 : decode cX10_edgeOf 57 = .ok (.ireturn, 1) := by decide +kernel
set_option maxRecDepth 20000 in
theorem ggX10_factor_X10_isFactor : GoodIn wsX10_factor wsX10_isFactor := goodIn_r _ [5, 6, 43, 44, 45, 46, 47, 48] (by decide +kernel) (by decide +kernel)
set_option maxRecDepth 20000 in
theorem gX10_factor_X10_isFactor : GoodIn wsX10_factor (wsV RX10 85 RX10 yX10_isFactor wsX10_isFactor) := goodIn_app (goodIn_of _ (by decide +kernel)) ggX10_factor_X10_isFactor
set_option maxRecDepth 20000 in
theorem ggX10_factor_X10_period : GoodIn wsX10_factor wsX10_period := goodIn_r _ [10, 11, 12, 13, 4, 14, 15, 16, 17, 18, 19, 20, 21, 22, 6, 43, 44, 45, 46, 47, 48] (by decide +kernel) (by decide +kernel)
set_option maxRecDepth 20000 in
theorem gX10_factor_X10_period : GoodIn wsX10_factor (wsV RX10 57 RX10 yX10_period wsX10_period) := goodIn_app (goodIn_of _ (by decide +kernel)) ggX10_factor_X10_period
set_option maxRecDepth 20000 in
theorem ggX10_factor_X10_ends : GoodIn wsX10_factor wsX10_ends := goodIn_r _ [26, 6, 15, 16, 17, 4, 18, 19, 20, 21, 22, 43, 44, 45, 46, 47, 48] (by decide +kernel) (by decide +kernel)
set_option maxRecDepth 20000 in
theorem gX10_factor_X10_ends : GoodIn wsX10_factor (wsV RX10 44 RX10 yX10_ends wsX10_ends) := goodIn_app (goodIn_of _ (by decide +kernel)) ggX10_factor_X10_ends
set_option maxRecDepth 20000 in
theorem ggX10_factor_X10_bits : GoodIn wsX10_factor wsX10_bits := goodIn_r _ [30] (by decide +kernel) (by decide +kernel)
set_option maxRecDepth 20000 in
theorem gX10_factor_X10_bits : GoodIn wsX10_factor (wsV RX10 112 RX10 yX10_bits wsX10_bits) := goodIn_app (goodIn_of _ (by decide +kernel)) ggX10_factor_X10_bits
set_option maxRecDepth 20000 in
theorem ggX10_factor_X10_edgeOf : GoodIn wsX10_factor wsX10_edgeOf := goodIn_r _ [34] (by decide +kernel) (by decide +kernel)
set_option maxRecDepth 20000 in
theorem gX10_factor_X10_edgeOf : GoodIn wsX10_factor (wsV RX10 116 RX10 yX10_edgeOf wsX10_edgeOf) := goodIn_app (goodIn_of _ (by decide +kernel)) ggX10_factor_X10_edgeOf
set_option maxRecDepth 20000 in
theorem ggX10_factor_X10_longest : GoodIn wsX10_factor wsX10_longest := goodIn_r _ [38, 23, 24, 25, 4, 26, 6, 15, 16, 17, 18, 19, 20, 21, 22, 43, 44, 45, 46, 47, 48] (by decide +kernel) (by decide +kernel)
set_option maxRecDepth 20000 in
theorem gX10_factor_X10_longest : GoodIn wsX10_factor (wsV RX10 51 RX10 yX10_longest wsX10_longest) := goodIn_app (goodIn_of _ (by decide +kernel)) ggX10_factor_X10_longest
set_option maxRecDepth 20000 in
theorem ggX10_factor_X10_shortest : GoodIn wsX10_factor wsX10_shortest := goodIn_r _ [42, 23, 24, 25, 4, 26, 6, 15, 16, 17, 18, 19, 20, 21, 22, 43, 44, 45, 46, 47, 48] (by decide +kernel) (by decide +kernel)
set_option maxRecDepth 20000 in
theorem gX10_factor_X10_shortest : GoodIn wsX10_factor (wsV RX10 120 RX10 yX10_shortest wsX10_shortest) := goodIn_app (goodIn_of _ (by decide +kernel)) ggX10_factor_X10_shortest
theorem dX10_factor_0 : decode cX10_factor 0 = .ok (.aload_n 0, 1) := by decide +kernel
theorem dX10_factor_1 : decode cX10_factor 1 = .ok (.iload_n 1, 1) := by decide +kernel
theorem dX10_factor_2 : decode cX10_factor 2 = .ok (.iload_n 2, 1) := by decide +kernel
theorem dX10_factor_3 : decode cX10_factor 3 = .ok (.invokevirtual 85, 3) := by decide +kernel
theorem dX10_factor_6 : decode cX10_factor 6 = .ok (.ifCond .ne 5, 3) := by decide +kernel
theorem dX10_factor_9 : decode cX10_factor 9 = .ok (.iconst (-1), 1) := by decide +kernel
theorem dX10_factor_10 : decode cX10_factor 10 = .ok (.ireturn, 1) := by decide +kernel
theorem dX10_factor_11 : decode cX10_factor 11 = .ok (.iload_n 2, 1) := by decide +kernel
theorem dX10_factor_12 : decode cX10_factor 12 = .ok (.iload_n 1, 1) := by decide +kernel
theorem dX10_factor_13 : decode cX10_factor 13 = .ok (.isub, 1) := by decide +kernel
theorem dX10_factor_14 : decode cX10_factor 14 = .ok (.istore 4, 2) := by decide +kernel
theorem dX10_factor_16 : decode cX10_factor 16 = .ok (.aload_n 0, 1) := by decide +kernel
theorem dX10_factor_17 : decode cX10_factor 17 = .ok (.iconst 0, 1) := by decide +kernel
theorem dX10_factor_18 : decode cX10_factor 18 = .ok (.iload_n 1, 1) := by decide +kernel
theorem dX10_factor_19 : decode cX10_factor 19 = .ok (.iload_n 2, 1) := by decide +kernel
theorem dX10_factor_20 : decode cX10_factor 20 = .ok (.invokevirtual 57, 3) := by decide +kernel
theorem dX10_factor_23 : decode cX10_factor 23 = .ok (.istore 5, 2) := by decide +kernel
theorem dX10_factor_25 : decode cX10_factor 25 = .ok (.iload_n 3, 1) := by decide +kernel
theorem dX10_factor_26 : decode cX10_factor 26 = .ok (.tableswitch 154 0 9 #[54, 66, 79, 92, 99, 106, 115, 118, 124, 145], 54) := by decide +kernel
theorem dX10_factor_80 : decode cX10_factor 80 = .ok (.aload_n 0, 1) := by decide +kernel
theorem dX10_factor_81 : decode cX10_factor 81 = .ok (.aload_n 0, 1) := by decide +kernel
theorem dX10_factor_82 : decode cX10_factor 82 = .ok (.iconst 0, 1) := by decide +kernel
theorem dX10_factor_83 : decode cX10_factor 83 = .ok (.iload_n 1, 1) := by decide +kernel
theorem dX10_factor_84 : decode cX10_factor 84 = .ok (.iload_n 2, 1) := by decide +kernel
theorem dX10_factor_85 : decode cX10_factor 85 = .ok (.invokevirtual 44, 3) := by decide +kernel
theorem dX10_factor_88 : decode cX10_factor 88 = .ok (.invokevirtual 112, 3) := by decide +kernel
theorem dX10_factor_91 : decode cX10_factor 91 = .ok (.ireturn, 1) := by decide +kernel
theorem dX10_factor_92 : decode cX10_factor 92 = .ok (.aload_n 0, 1) := by decide +kernel
theorem dX10_factor_93 : decode cX10_factor 93 = .ok (.aload_n 0, 1) := by decide +kernel
theorem dX10_factor_94 : decode cX10_factor 94 = .ok (.iconst 0, 1) := by decide +kernel
theorem dX10_factor_95 : decode cX10_factor 95 = .ok (.iload_n 1, 1) := by decide +kernel
theorem dX10_factor_96 : decode cX10_factor 96 = .ok (.iload_n 2, 1) := by decide +kernel
theorem dX10_factor_97 : decode cX10_factor 97 = .ok (.invokevirtual 44, 3) := by decide +kernel
theorem dX10_factor_100 : decode cX10_factor 100 = .ok (.iconst 1, 1) := by decide +kernel
theorem dX10_factor_101 : decode cX10_factor 101 = .ok (.invokevirtual 116, 3) := by decide +kernel
theorem dX10_factor_104 : decode cX10_factor 104 = .ok (.ireturn, 1) := by decide +kernel
theorem dX10_factor_105 : decode cX10_factor 105 = .ok (.aload_n 0, 1) := by decide +kernel
theorem dX10_factor_106 : decode cX10_factor 106 = .ok (.aload_n 0, 1) := by decide +kernel
theorem dX10_factor_107 : decode cX10_factor 107 = .ok (.iconst 0, 1) := by decide +kernel
theorem dX10_factor_108 : decode cX10_factor 108 = .ok (.iload_n 1, 1) := by decide +kernel
theorem dX10_factor_109 : decode cX10_factor 109 = .ok (.iload_n 2, 1) := by decide +kernel
theorem dX10_factor_110 : decode cX10_factor 110 = .ok (.invokevirtual 44, 3) := by decide +kernel
theorem dX10_factor_113 : decode cX10_factor 113 = .ok (.iconst 0, 1) := by decide +kernel
theorem dX10_factor_114 : decode cX10_factor 114 = .ok (.invokevirtual 116, 3) := by decide +kernel
theorem dX10_factor_117 : decode cX10_factor 117 = .ok (.ireturn, 1) := by decide +kernel
theorem dX10_factor_118 : decode cX10_factor 118 = .ok (.aload_n 0, 1) := by decide +kernel
theorem dX10_factor_119 : decode cX10_factor 119 = .ok (.iload_n 1, 1) := by decide +kernel
theorem dX10_factor_120 : decode cX10_factor 120 = .ok (.iload_n 2, 1) := by decide +kernel
theorem dX10_factor_121 : decode cX10_factor 121 = .ok (.invokevirtual 51, 3) := by decide +kernel
theorem dX10_factor_124 : decode cX10_factor 124 = .ok (.ireturn, 1) := by decide +kernel
theorem dX10_factor_125 : decode cX10_factor 125 = .ok (.aload_n 0, 1) := by decide +kernel
theorem dX10_factor_126 : decode cX10_factor 126 = .ok (.iload_n 1, 1) := by decide +kernel
theorem dX10_factor_127 : decode cX10_factor 127 = .ok (.iload_n 2, 1) := by decide +kernel
theorem dX10_factor_128 : decode cX10_factor 128 = .ok (.invokevirtual 120, 3) := by decide +kernel
theorem dX10_factor_131 : decode cX10_factor 131 = .ok (.ireturn, 1) := by decide +kernel
theorem dX10_factor_132 : decode cX10_factor 132 = .ok (.aload_n 0, 1) := by decide +kernel
theorem dX10_factor_133 : decode cX10_factor 133 = .ok (.iload_n 1, 1) := by decide +kernel
theorem dX10_factor_134 : decode cX10_factor 134 = .ok (.iload_n 2, 1) := by decide +kernel
theorem dX10_factor_135 : decode cX10_factor 135 = .ok (.invokevirtual 120, 3) := by decide +kernel
theorem dX10_factor_138 : decode cX10_factor 138 = .ok (.iconst 1, 1) := by decide +kernel
theorem dX10_factor_139 : decode cX10_factor 139 = .ok (.isub, 1) := by decide +kernel
theorem dX10_factor_140 : decode cX10_factor 140 = .ok (.ireturn, 1) := by decide +kernel
theorem dX10_factor_141 : decode cX10_factor 141 = .ok (.iload 5, 2) := by decide +kernel
theorem dX10_factor_143 : decode cX10_factor 143 = .ok (.ireturn, 1) := by decide +kernel
theorem dX10_factor_144 : decode cX10_factor 144 = .ok (.iload 4, 2) := by decide +kernel
theorem dX10_factor_146 : decode cX10_factor 146 = .ok (.iload 5, 2) := by decide +kernel
theorem dX10_factor_148 : decode cX10_factor 148 = .ok (.isub, 1) := by decide +kernel
theorem dX10_factor_149 : decode cX10_factor 149 = .ok (.ireturn, 1) := by decide +kernel
theorem dX10_factor_150 : decode cX10_factor 150 = .ok (.iload 4, 2) := by decide +kernel
theorem dX10_factor_152 : decode cX10_factor 152 = .ok (.iload 5, 2) := by decide +kernel
theorem dX10_factor_154 : decode cX10_factor 154 = .ok (.irem, 1) := by decide +kernel
theorem dX10_factor_155 : decode cX10_factor 155 = .ok (.ifCond .ne 14, 3) := by decide +kernel
theorem dX10_factor_158 : decode cX10_factor 158 = .ok (.iload 5, 2) := by decide +kernel
theorem dX10_factor_160 : decode cX10_factor 160 = .ok (.iload 4, 2) := by decide +kernel
theorem dX10_factor_162 : decode cX10_factor 162 = .ok (.if_icmp .ge 7, 3) := by decide +kernel
theorem dX10_factor_165 : decode cX10_factor 165 = .ok (.iconst 0, 1) := by decide +kernel
theorem dX10_factor_166 : decode cX10_factor 166 = .ok (.goto 4, 3) := by decide +kernel
theorem dX10_factor_169 : decode cX10_factor 169 = .ok (.iconst 1, 1) := by decide +kernel
theorem dX10_factor_170 : decode cX10_factor 170 = .ok (.ireturn, 1) := by decide +kernel
theorem dX10_factor_171 : decode cX10_factor 171 = .ok (.bipush 100, 2) := by decide +kernel
theorem dX10_factor_173 : decode cX10_factor 173 = .ok (.iload 4, 2) := by decide +kernel
theorem dX10_factor_175 : decode cX10_factor 175 = .ok (.imul, 1) := by decide +kernel
theorem dX10_factor_176 : decode cX10_factor 176 = .ok (.iload 5, 2) := by decide +kernel
theorem dX10_factor_178 : decode cX10_factor 178 = .ok (.idiv, 1) := by decide +kernel
theorem dX10_factor_179 : decode cX10_factor 179 = .ok (.ireturn, 1) := by decide +kernel
theorem dX10_factor_180 : decode cX10_factor 180 = .ok (.bipush (-2), 2) := by decide +kernel
theorem dX10_factor_182 : decode cX10_factor 182 = .ok (.ireturn, 1) := by decide +kernel
set_option maxRecDepth 20000 in
theorem ggX10_alike_X10_isPlace : GoodIn wsX10_alike wsX10_isPlace := goodIn_r _ [5, 6, 7, 8, 4, 9, 18, 19, 20, 21, 22, 23] (by decide +kernel) (by decide +kernel)
set_option maxRecDepth 20000 in
theorem gX10_alike_X10_isPlace : GoodIn wsX10_alike (wsV RX10 77 RX10 yX10_isPlace wsX10_isPlace) := goodIn_app (goodIn_of _ (by decide +kernel)) ggX10_alike_X10_isPlace
set_option maxRecDepth 20000 in
theorem ggX10_alike_X10_alikeFrom : GoodIn wsX10_alike wsX10_alikeFrom := goodIn_r _ [13, 6, 14, 15, 16, 4, 17, 18, 19, 20, 21, 22, 23] (by decide +kernel) (by decide +kernel)
set_option maxRecDepth 20000 in
theorem gX10_alike_X10_alikeFrom : GoodIn wsX10_alike (wsV RX10 64 RX10 yX10_alikeFrom wsX10_alikeFrom) := goodIn_app (goodIn_of _ (by decide +kernel)) ggX10_alike_X10_alikeFrom
theorem dX10_alike_0 : decode cX10_alike 0 = .ok (.aload_n 0, 1) := by decide +kernel
theorem dX10_alike_1 : decode cX10_alike 1 = .ok (.iload_n 1, 1) := by decide +kernel
theorem dX10_alike_2 : decode cX10_alike 2 = .ok (.invokevirtual 77, 3) := by decide +kernel
theorem dX10_alike_5 : decode cX10_alike 5 = .ok (.ifCond .eq 20, 3) := by decide +kernel
theorem dX10_alike_8 : decode cX10_alike 8 = .ok (.aload_n 0, 1) := by decide +kernel
theorem dX10_alike_9 : decode cX10_alike 9 = .ok (.iload_n 2, 1) := by decide +kernel
theorem dX10_alike_10 : decode cX10_alike 10 = .ok (.invokevirtual 77, 3) := by decide +kernel
theorem dX10_alike_13 : decode cX10_alike 13 = .ok (.ifCond .eq 12, 3) := by decide +kernel
theorem dX10_alike_16 : decode cX10_alike 16 = .ok (.aload_n 0, 1) := by decide +kernel
theorem dX10_alike_17 : decode cX10_alike 17 = .ok (.iload_n 1, 1) := by decide +kernel
theorem dX10_alike_18 : decode cX10_alike 18 = .ok (.iload_n 2, 1) := by decide +kernel
theorem dX10_alike_19 : decode cX10_alike 19 = .ok (.invokevirtual 64, 3) := by decide +kernel
theorem dX10_alike_22 : decode cX10_alike 22 = .ok (.goto 4, 3) := by decide +kernel
theorem dX10_alike_25 : decode cX10_alike 25 = .ok (.iconst (-1), 1) := by decide +kernel
theorem dX10_alike_26 : decode cX10_alike 26 = .ok (.ireturn, 1) := by decide +kernel
set_option maxRecDepth 20000 in
theorem ggX10_suffix_X10_sorts : GoodIn wsX10_suffix wsX10_sorts := goodIn_r _ [7, 1, 2, 8, 9, 10, 6, 11, 12, 13, 14, 15, 16, 17, 18, 19, 20, 21, 22, 23, 24, 25] (by decide +kernel) (by decide +kernel)
set_option maxRecDepth 20000 in
theorem gX10_suffix_X10_sorts : GoodIn wsX10_suffix (wsV RX10 71 RX10 yX10_sorts wsX10_sorts) := goodIn_app (goodIn_of _ (by decide +kernel)) ggX10_suffix_X10_sorts
theorem dX10_suffix_0 : decode cX10_suffix 0 = .ok (.iload_n 1, 1) := by decide +kernel
theorem dX10_suffix_1 : decode cX10_suffix 1 = .ok (.ifCond .ge 6, 3) := by decide +kernel
theorem dX10_suffix_4 : decode cX10_suffix 4 = .ok (.bipush (-2), 2) := by decide +kernel
theorem dX10_suffix_6 : decode cX10_suffix 6 = .ok (.ireturn, 1) := by decide +kernel
theorem dX10_suffix_7 : decode cX10_suffix 7 = .ok (.iload_n 1, 1) := by decide +kernel
theorem dX10_suffix_8 : decode cX10_suffix 8 = .ok (.aload_n 0, 1) := by decide +kernel
theorem dX10_suffix_9 : decode cX10_suffix 9 = .ok (.getfield 7, 3) := by decide +kernel
theorem dX10_suffix_12 : decode cX10_suffix 12 = .ok (.iconst 0, 1) := by decide +kernel
theorem dX10_suffix_13 : decode cX10_suffix 13 = .ok (.iaload, 1) := by decide +kernel
theorem dX10_suffix_14 : decode cX10_suffix 14 = .ok (.if_icmp .lt 6, 3) := by decide +kernel
theorem dX10_suffix_17 : decode cX10_suffix 17 = .ok (.bipush (-4), 2) := by decide +kernel
theorem dX10_suffix_19 : decode cX10_suffix 19 = .ok (.ireturn, 1) := by decide +kernel
theorem dX10_suffix_20 : decode cX10_suffix 20 = .ok (.aload_n 0, 1) := by decide +kernel
theorem dX10_suffix_21 : decode cX10_suffix 21 = .ok (.invokevirtual 71, 3) := by decide +kernel
theorem dX10_suffix_24 : decode cX10_suffix 24 = .ok (.aload_n 0, 1) := by decide +kernel
theorem dX10_suffix_25 : decode cX10_suffix 25 = .ok (.getfield 17, 3) := by decide +kernel
theorem dX10_suffix_28 : decode cX10_suffix 28 = .ok (.iload_n 1, 1) := by decide +kernel
theorem dX10_suffix_29 : decode cX10_suffix 29 = .ok (.iaload, 1) := by decide +kernel
theorem dX10_suffix_30 : decode cX10_suffix 30 = .ok (.ireturn, 1) := by decide +kernel
set_option maxRecDepth 20000 in
theorem ggX10_square_X10_in : GoodIn wsX10_square wsX10_in := goodIn_r _ [5] (by decide +kernel) (by decide +kernel)
set_option maxRecDepth 20000 in
theorem gX10_square_X10_in : GoodIn wsX10_square (va_wsS RX10 28 yX10_in wsX10_in) := goodIn_app (goodIn_of _ (by decide +kernel)) ggX10_square_X10_in
set_option maxRecDepth 20000 in
theorem ggX10_square_X10_isSquare : GoodIn wsX10_square wsX10_isSquare := goodIn_r _ [9, 1, 10, 11, 12, 4, 13, 14, 15, 16, 17, 18, 19, 20, 21, 22, 23] (by decide +kernel) (by decide +kernel)
set_option maxRecDepth 20000 in
theorem gX10_square_X10_isSquare : GoodIn wsX10_square (wsV RX10 54 RX10 yX10_isSquare wsX10_isSquare) := goodIn_app (goodIn_of _ (by decide +kernel)) ggX10_square_X10_isSquare
theorem dX10_square_0 : decode cX10_square 0 = .ok (.iload_n 1, 1) := by decide +kernel
theorem dX10_square_1 : decode cX10_square 1 = .ok (.ifCond .lt 12, 3) := by decide +kernel
theorem dX10_square_4 : decode cX10_square 4 = .ok (.iload_n 2, 1) := by decide +kernel
theorem dX10_square_5 : decode cX10_square 5 = .ok (.iconst 0, 1) := by decide +kernel
theorem dX10_square_6 : decode cX10_square 6 = .ok (.iconst 1, 1) := by decide +kernel
theorem dX10_square_7 : decode cX10_square 7 = .ok (.invokestatic 28, 3) := by decide +kernel
theorem dX10_square_10 : decode cX10_square 10 = .ok (.ifCond .ne 6, 3) := by decide +kernel
theorem dX10_square_13 : decode cX10_square 13 = .ok (.bipush (-2), 2) := by decide +kernel
theorem dX10_square_15 : decode cX10_square 15 = .ok (.ireturn, 1) := by decide +kernel
theorem dX10_square_16 : decode cX10_square 16 = .ok (.iconst 0, 1) := by decide +kernel
theorem dX10_square_17 : decode cX10_square 17 = .ok (.istore_n 3, 1) := by decide +kernel
theorem dX10_square_18 : decode cX10_square 18 = .ok (.iconst 0, 1) := by decide +kernel
theorem dX10_square_19 : decode cX10_square 19 = .ok (.istore 4, 2) := by decide +kernel
theorem dX10_square_21 : decode cX10_square 21 = .ok (.iload 4, 2) := by decide +kernel
theorem dX10_square_23 : decode cX10_square 23 = .ok (.aload_n 0, 1) := by decide +kernel
theorem dX10_square_24 : decode cX10_square 24 = .ok (.getfield 7, 3) := by decide +kernel
theorem dX10_square_27 : decode cX10_square 27 = .ok (.iconst 0, 1) := by decide +kernel
theorem dX10_square_28 : decode cX10_square 28 = .ok (.iaload, 1) := by decide +kernel
theorem dX10_square_29 : decode cX10_square 29 = .ok (.if_icmp .ge 66, 3) := by decide +kernel
theorem dX10_square_32 : decode cX10_square 32 = .ok (.iconst 1, 1) := by decide +kernel
theorem dX10_square_33 : decode cX10_square 33 = .ok (.istore 5, 2) := by decide +kernel
theorem dX10_square_35 : decode cX10_square 35 = .ok (.iload 4, 2) := by decide +kernel
theorem dX10_square_37 : decode cX10_square 37 = .ok (.iconst 2, 1) := by decide +kernel
theorem dX10_square_38 : decode cX10_square 38 = .ok (.iload 5, 2) := by decide +kernel
theorem dX10_square_40 : decode cX10_square 40 = .ok (.imul, 1) := by decide +kernel
theorem dX10_square_41 : decode cX10_square 41 = .ok (.iadd, 1) := by decide +kernel
theorem dX10_square_42 : decode cX10_square 42 = .ok (.aload_n 0, 1) := by decide +kernel
theorem dX10_square_43 : decode cX10_square 43 = .ok (.getfield 7, 3) := by decide +kernel
theorem dX10_square_46 : decode cX10_square 46 = .ok (.iconst 0, 1) := by decide +kernel
theorem dX10_square_47 : decode cX10_square 47 = .ok (.iaload, 1) := by decide +kernel
theorem dX10_square_48 : decode cX10_square 48 = .ok (.if_icmp .gt 41, 3) := by decide +kernel
theorem dX10_square_51 : decode cX10_square 51 = .ok (.aload_n 0, 1) := by decide +kernel
theorem dX10_square_52 : decode cX10_square 52 = .ok (.iconst 0, 1) := by decide +kernel
theorem dX10_square_53 : decode cX10_square 53 = .ok (.iload 4, 2) := by decide +kernel
theorem dX10_square_55 : decode cX10_square 55 = .ok (.iload 5, 2) := by decide +kernel
theorem dX10_square_57 : decode cX10_square 57 = .ok (.invokevirtual 54, 3) := by decide +kernel
theorem dX10_square_60 : decode cX10_square 60 = .ok (.ifCond .eq 23, 3) := by decide +kernel
theorem dX10_square_63 : decode cX10_square 63 = .ok (.iload_n 3, 1) := by decide +kernel
theorem dX10_square_64 : decode cX10_square 64 = .ok (.iload_n 1, 1) := by decide +kernel
theorem dX10_square_65 : decode cX10_square 65 = .ok (.if_icmp .ne 15, 3) := by decide +kernel
theorem dX10_square_68 : decode cX10_square 68 = .ok (.iload_n 2, 1) := by decide +kernel
theorem dX10_square_69 : decode cX10_square 69 = .ok (.ifCond .ne 8, 3) := by decide +kernel
theorem dX10_square_72 : decode cX10_square 72 = .ok (.iload 4, 2) := by decide +kernel
theorem dX10_square_74 : decode cX10_square 74 = .ok (.goto 5, 3) := by decide +kernel
theorem dX10_square_77 : decode cX10_square 77 = .ok (.iload 5, 2) := by decide +kernel
theorem dX10_square_79 : decode cX10_square 79 = .ok (.ireturn, 1) := by decide +kernel
theorem dX10_square_80 : decode cX10_square 80 = .ok (.iinc 3 1, 3) := by decide +kernel
theorem dX10_square_83 : decode cX10_square 83 = .ok (.iinc 5 1, 3) := by decide +kernel
theorem dX10_square_86 : decode cX10_square 86 = .ok (.goto (-51), 3) := by decide +kernel
theorem dX10_square_89 : decode cX10_square 89 = .ok (.iinc 4 1, 3) := by decide +kernel
theorem dX10_square_92 : decode cX10_square 92 = .ok (.goto (-71), 3) := by decide +kernel
theorem dX10_square_95 : decode cX10_square 95 = .ok (.bipush (-4), 2) := by decide +kernel
theorem dX10_square_97 : decode cX10_square 97 = .ok (.ireturn, 1) := by decide +kernel
set_option maxRecDepth 20000 in
theorem ggX10_root_X10_letAt : GoodIn wsX10_root wsX10_letAt := goodIn_r _ [5, 6, 7, 8, 9, 10, 11, 12] (by decide +kernel) (by decide +kernel)
set_option maxRecDepth 20000 in
theorem gX10_root_X10_letAt : GoodIn wsX10_root (wsV RX10 32 RX10 yX10_letAt wsX10_letAt) := goodIn_app (goodIn_of _ (by decide +kernel)) ggX10_root_X10_letAt
theorem dX10_root_0 : decode cX10_root 0 = .ok (.iload_n 1, 1) := by decide +kernel
theorem dX10_root_1 : decode cX10_root 1 = .ok (.istore 4, 2) := by decide +kernel
theorem dX10_root_3 : decode cX10_root 3 = .ok (.iload_n 1, 1) := by decide +kernel
theorem dX10_root_4 : decode cX10_root 4 = .ok (.iconst 1, 1) := by decide +kernel
theorem dX10_root_5 : decode cX10_root 5 = .ok (.iadd, 1) := by decide +kernel
theorem dX10_root_6 : decode cX10_root 6 = .ok (.istore 5, 2) := by decide +kernel
theorem dX10_root_8 : decode cX10_root 8 = .ok (.iload 5, 2) := by decide +kernel
theorem dX10_root_10 : decode cX10_root 10 = .ok (.iload_n 3, 1) := by decide +kernel
theorem dX10_root_11 : decode cX10_root 11 = .ok (.iadd, 1) := by decide +kernel
theorem dX10_root_12 : decode cX10_root 12 = .ok (.iload_n 2, 1) := by decide +kernel
theorem dX10_root_13 : decode cX10_root 13 = .ok (.if_icmp .gt 85, 3) := by decide +kernel
theorem dX10_root_16 : decode cX10_root 16 = .ok (.iconst 0, 1) := by decide +kernel
theorem dX10_root_17 : decode cX10_root 17 = .ok (.istore 6, 2) := by decide +kernel
theorem dX10_root_19 : decode cX10_root 19 = .ok (.iload 6, 2) := by decide +kernel
theorem dX10_root_21 : decode cX10_root 21 = .ok (.iload_n 3, 1) := by decide +kernel
theorem dX10_root_22 : decode cX10_root 22 = .ok (.if_icmp .ge 32, 3) := by decide +kernel
theorem dX10_root_25 : decode cX10_root 25 = .ok (.aload_n 0, 1) := by decide +kernel
theorem dX10_root_26 : decode cX10_root 26 = .ok (.iconst 0, 1) := by decide +kernel
theorem dX10_root_27 : decode cX10_root 27 = .ok (.iload 5, 2) := by decide +kernel
theorem dX10_root_29 : decode cX10_root 29 = .ok (.iload 6, 2) := by decide +kernel
theorem dX10_root_31 : decode cX10_root 31 = .ok (.iadd, 1) := by decide +kernel
theorem dX10_root_32 : decode cX10_root 32 = .ok (.invokevirtual 32, 3) := by decide +kernel
theorem dX10_root_35 : decode cX10_root 35 = .ok (.aload_n 0, 1) := by decide +kernel
theorem dX10_root_36 : decode cX10_root 36 = .ok (.iconst 0, 1) := by decide +kernel
theorem dX10_root_37 : decode cX10_root 37 = .ok (.iload 4, 2) := by decide +kernel
theorem dX10_root_39 : decode cX10_root 39 = .ok (.iload 6, 2) := by decide +kernel
theorem dX10_root_41 : decode cX10_root 41 = .ok (.iadd, 1) := by decide +kernel
theorem dX10_root_42 : decode cX10_root 42 = .ok (.invokevirtual 32, 3) := by decide +kernel
theorem dX10_root_45 : decode cX10_root 45 = .ok (.if_icmp .ne 9, 3) := by decide +kernel
theorem dX10_root_48 : decode cX10_root 48 = .ok (.iinc 6 1, 3) := by decide +kernel
theorem dX10_root_51 : decode cX10_root 51 = .ok (.goto (-32), 3) := by decide +kernel
theorem dX10_root_54 : decode cX10_root 54 = .ok (.iload 6, 2) := by decide +kernel
theorem dX10_root_56 : decode cX10_root 56 = .ok (.iload_n 3, 1) := by decide +kernel
theorem dX10_root_57 : decode cX10_root 57 = .ok (.if_icmp .ge 31, 3) := by decide +kernel
theorem dX10_root_60 : decode cX10_root 60 = .ok (.aload_n 0, 1) := by decide +kernel
theorem dX10_root_61 : decode cX10_root 61 = .ok (.iconst 0, 1) := by decide +kernel
theorem dX10_root_62 : decode cX10_root 62 = .ok (.iload 5, 2) := by decide +kernel
theorem dX10_root_64 : decode cX10_root 64 = .ok (.iload 6, 2) := by decide +kernel
theorem dX10_root_66 : decode cX10_root 66 = .ok (.iadd, 1) := by decide +kernel
theorem dX10_root_67 : decode cX10_root 67 = .ok (.invokevirtual 32, 3) := by decide +kernel
theorem dX10_root_70 : decode cX10_root 70 = .ok (.aload_n 0, 1) := by decide +kernel
theorem dX10_root_71 : decode cX10_root 71 = .ok (.iconst 0, 1) := by decide +kernel
theorem dX10_root_72 : decode cX10_root 72 = .ok (.iload 4, 2) := by decide +kernel
theorem dX10_root_74 : decode cX10_root 74 = .ok (.iload 6, 2) := by decide +kernel
theorem dX10_root_76 : decode cX10_root 76 = .ok (.iadd, 1) := by decide +kernel
theorem dX10_root_77 : decode cX10_root 77 = .ok (.invokevirtual 32, 3) := by decide +kernel
theorem dX10_root_80 : decode cX10_root 80 = .ok (.if_icmp .ge 8, 3) := by decide +kernel
theorem dX10_root_83 : decode cX10_root 83 = .ok (.iload 5, 2) := by decide +kernel
theorem dX10_root_85 : decode cX10_root 85 = .ok (.goto 5, 3) := by decide +kernel
theorem dX10_root_88 : decode cX10_root 88 = .ok (.iload 4, 2) := by decide +kernel
theorem dX10_root_90 : decode cX10_root 90 = .ok (.istore 4, 2) := by decide +kernel
theorem dX10_root_92 : decode cX10_root 92 = .ok (.iinc 5 1, 3) := by decide +kernel
theorem dX10_root_95 : decode cX10_root 95 = .ok (.goto (-87), 3) := by decide +kernel
theorem dX10_root_98 : decode cX10_root 98 = .ok (.iload 4, 2) := by decide +kernel
theorem dX10_root_100 : decode cX10_root 100 = .ok (.ireturn, 1) := by decide +kernel
set_option maxRecDepth 20000 in
theorem ggX10_run_X10_in : GoodIn wsX10_run wsX10_in := goodIn_r _ [5] (by decide +kernel) (by decide +kernel)
set_option maxRecDepth 20000 in
theorem gX10_run_X10_in : GoodIn wsX10_run (va_wsS RX10 28 yX10_in wsX10_in) := goodIn_app (goodIn_of _ (by decide +kernel)) ggX10_run_X10_in
set_option maxRecDepth 20000 in
theorem ggX10_run_X10_runEnd : GoodIn wsX10_run wsX10_runEnd := goodIn_r _ [9, 1, 10, 11, 12, 4, 13, 14, 15, 16, 17, 18, 19, 20, 21, 22, 23, 24, 25, 30, 31, 32, 33, 34, 35] (by decide +kernel) (by decide +kernel)
set_option maxRecDepth 20000 in
theorem gX10_run_X10_runEnd : GoodIn wsX10_run (wsV RX10 61 RX10 yX10_runEnd wsX10_runEnd) := goodIn_app (goodIn_of _ (by decide +kernel)) ggX10_run_X10_runEnd
set_option maxRecDepth 20000 in
theorem ggX10_run_X10_root : GoodIn wsX10_run wsX10_root := goodIn_r _ [29, 10, 11, 12, 4, 13, 1, 30, 31, 32, 33, 34, 35] (by decide +kernel) (by decide +kernel)
set_option maxRecDepth 20000 in
theorem gX10_run_X10_root : GoodIn wsX10_run (wsV RX10 123 RX10 yX10_root wsX10_root) := goodIn_app (goodIn_of _ (by decide +kernel)) ggX10_run_X10_root
theorem dX10_run_0 : decode cX10_run 0 = .ok (.iload_n 1, 1) := by decide +kernel
theorem dX10_run_1 : decode cX10_run 1 = .ok (.ifCond .lt 12, 3) := by decide +kernel
theorem dX10_run_4 : decode cX10_run 4 = .ok (.iload_n 2, 1) := by decide +kernel
theorem dX10_run_5 : decode cX10_run 5 = .ok (.iconst 0, 1) := by decide +kernel
theorem dX10_run_6 : decode cX10_run 6 = .ok (.iconst 4, 1) := by decide +kernel
theorem dX10_run_7 : decode cX10_run 7 = .ok (.invokestatic 28, 3) := by decide +kernel
theorem dX10_run_10 : decode cX10_run 10 = .ok (.ifCond .ne 6, 3) := by decide +kernel
theorem dX10_run_13 : decode cX10_run 13 = .ok (.bipush (-2), 2) := by decide +kernel
theorem dX10_run_15 : decode cX10_run 15 = .ok (.ireturn, 1) := by decide +kernel
theorem dX10_run_16 : decode cX10_run 16 = .ok (.iconst 0, 1) := by decide +kernel
theorem dX10_run_17 : decode cX10_run 17 = .ok (.istore_n 3, 1) := by decide +kernel
theorem dX10_run_18 : decode cX10_run 18 = .ok (.iconst 0, 1) := by decide +kernel
theorem dX10_run_19 : decode cX10_run 19 = .ok (.istore 4, 2) := by decide +kernel
theorem dX10_run_21 : decode cX10_run 21 = .ok (.iload 4, 2) := by decide +kernel
theorem dX10_run_23 : decode cX10_run 23 = .ok (.aload_n 0, 1) := by decide +kernel
theorem dX10_run_24 : decode cX10_run 24 = .ok (.getfield 7, 3) := by decide +kernel
theorem dX10_run_27 : decode cX10_run 27 = .ok (.iconst 0, 1) := by decide +kernel
theorem dX10_run_28 : decode cX10_run 28 = .ok (.iaload, 1) := by decide +kernel
theorem dX10_run_29 : decode cX10_run 29 = .ok (.if_icmp .ge 128, 3) := by decide +kernel
theorem dX10_run_32 : decode cX10_run 32 = .ok (.iconst 1, 1) := by decide +kernel
theorem dX10_run_33 : decode cX10_run 33 = .ok (.istore 5, 2) := by decide +kernel
theorem dX10_run_35 : decode cX10_run 35 = .ok (.iload 4, 2) := by decide +kernel
theorem dX10_run_37 : decode cX10_run 37 = .ok (.iconst 2, 1) := by decide +kernel
theorem dX10_run_38 : decode cX10_run 38 = .ok (.iload 5, 2) := by decide +kernel
theorem dX10_run_40 : decode cX10_run 40 = .ok (.imul, 1) := by decide +kernel
theorem dX10_run_41 : decode cX10_run 41 = .ok (.iadd, 1) := by decide +kernel
theorem dX10_run_42 : decode cX10_run 42 = .ok (.aload_n 0, 1) := by decide +kernel
theorem dX10_run_43 : decode cX10_run 43 = .ok (.getfield 7, 3) := by decide +kernel
theorem dX10_run_46 : decode cX10_run 46 = .ok (.iconst 0, 1) := by decide +kernel
theorem dX10_run_47 : decode cX10_run 47 = .ok (.iaload, 1) := by decide +kernel
theorem dX10_run_48 : decode cX10_run 48 = .ok (.if_icmp .gt 103, 3) := by decide +kernel
theorem dX10_run_51 : decode cX10_run 51 = .ok (.aload_n 0, 1) := by decide +kernel
theorem dX10_run_52 : decode cX10_run 52 = .ok (.iconst 0, 1) := by decide +kernel
theorem dX10_run_53 : decode cX10_run 53 = .ok (.iload 4, 2) := by decide +kernel
theorem dX10_run_55 : decode cX10_run 55 = .ok (.iload 5, 2) := by decide +kernel
theorem dX10_run_57 : decode cX10_run 57 = .ok (.invokevirtual 61, 3) := by decide +kernel
theorem dX10_run_60 : decode cX10_run 60 = .ok (.istore 6, 2) := by decide +kernel
theorem dX10_run_62 : decode cX10_run 62 = .ok (.iload 6, 2) := by decide +kernel
theorem dX10_run_64 : decode cX10_run 64 = .ok (.ifCond .le 68, 3) := by decide +kernel
theorem dX10_run_67 : decode cX10_run 67 = .ok (.iload_n 3, 1) := by decide +kernel
theorem dX10_run_68 : decode cX10_run 68 = .ok (.iload_n 1, 1) := by decide +kernel
theorem dX10_run_69 : decode cX10_run 69 = .ok (.if_icmp .ne 63, 3) := by decide +kernel
theorem dX10_run_72 : decode cX10_run 72 = .ok (.iload_n 2, 1) := by decide +kernel
theorem dX10_run_73 : decode cX10_run 73 = .ok (.ifCond .ne 8, 3) := by decide +kernel
theorem dX10_run_76 : decode cX10_run 76 = .ok (.iload 4, 2) := by decide +kernel
theorem dX10_run_78 : decode cX10_run 78 = .ok (.goto 53, 3) := by decide +kernel
theorem dX10_run_81 : decode cX10_run 81 = .ok (.iload_n 2, 1) := by decide +kernel
theorem dX10_run_82 : decode cX10_run 82 = .ok (.iconst 1, 1) := by decide +kernel
theorem dX10_run_83 : decode cX10_run 83 = .ok (.if_icmp .ne 8, 3) := by decide +kernel
theorem dX10_run_86 : decode cX10_run 86 = .ok (.iload 6, 2) := by decide +kernel
theorem dX10_run_88 : decode cX10_run 88 = .ok (.goto 43, 3) := by decide +kernel
theorem dX10_run_91 : decode cX10_run 91 = .ok (.iload_n 2, 1) := by decide +kernel
theorem dX10_run_92 : decode cX10_run 92 = .ok (.iconst 2, 1) := by decide +kernel
theorem dX10_run_93 : decode cX10_run 93 = .ok (.if_icmp .ne 8, 3) := by decide +kernel
theorem dX10_run_96 : decode cX10_run 96 = .ok (.iload 5, 2) := by decide +kernel
theorem dX10_run_98 : decode cX10_run 98 = .ok (.goto 33, 3) := by decide +kernel
theorem dX10_run_101 : decode cX10_run 101 = .ok (.iload_n 2, 1) := by decide +kernel
theorem dX10_run_102 : decode cX10_run 102 = .ok (.iconst 3, 1) := by decide +kernel
theorem dX10_run_103 : decode cX10_run 103 = .ok (.if_icmp .ne 16, 3) := by decide +kernel
theorem dX10_run_106 : decode cX10_run 106 = .ok (.aload_n 0, 1) := by decide +kernel
theorem dX10_run_107 : decode cX10_run 107 = .ok (.iload 4, 2) := by decide +kernel
theorem dX10_run_109 : decode cX10_run 109 = .ok (.iload 6, 2) := by decide +kernel
theorem dX10_run_111 : decode cX10_run 111 = .ok (.iload 5, 2) := by decide +kernel
theorem dX10_run_113 : decode cX10_run 113 = .ok (.invokevirtual 123, 3) := by decide +kernel
theorem dX10_run_116 : decode cX10_run 116 = .ok (.goto 15, 3) := by decide +kernel
theorem dX10_run_119 : decode cX10_run 119 = .ok (.iload 6, 2) := by decide +kernel
theorem dX10_run_121 : decode cX10_run 121 = .ok (.iload 4, 2) := by decide +kernel
theorem dX10_run_123 : decode cX10_run 123 = .ok (.isub, 1) := by decide +kernel
theorem dX10_run_124 : decode cX10_run 124 = .ok (.iconst 2, 1) := by decide +kernel
theorem dX10_run_125 : decode cX10_run 125 = .ok (.iload 5, 2) := by decide +kernel
theorem dX10_run_127 : decode cX10_run 127 = .ok (.imul, 1) := by decide +kernel
theorem dX10_run_128 : decode cX10_run 128 = .ok (.isub, 1) := by decide +kernel
theorem dX10_run_129 : decode cX10_run 129 = .ok (.iconst 1, 1) := by decide +kernel
theorem dX10_run_130 : decode cX10_run 130 = .ok (.iadd, 1) := by decide +kernel
theorem dX10_run_131 : decode cX10_run 131 = .ok (.ireturn, 1) := by decide +kernel
theorem dX10_run_132 : decode cX10_run 132 = .ok (.iload_n 3, 1) := by decide +kernel
theorem dX10_run_133 : decode cX10_run 133 = .ok (.iload 6, 2) := by decide +kernel
theorem dX10_run_135 : decode cX10_run 135 = .ok (.ifCond .le 7, 3) := by decide +kernel
theorem dX10_run_138 : decode cX10_run 138 = .ok (.iconst 1, 1) := by decide +kernel
theorem dX10_run_139 : decode cX10_run 139 = .ok (.goto 4, 3) := by decide +kernel
theorem dX10_run_142 : decode cX10_run 142 = .ok (.iconst 0, 1) := by decide +kernel
theorem dX10_run_143 : decode cX10_run 143 = .ok (.iadd, 1) := by decide +kernel
theorem dX10_run_144 : decode cX10_run 144 = .ok (.istore_n 3, 1) := by decide +kernel
theorem dX10_run_145 : decode cX10_run 145 = .ok (.iinc 5 1, 3) := by decide +kernel
theorem dX10_run_148 : decode cX10_run 148 = .ok (.goto (-113), 3) := by decide +kernel
theorem dX10_run_151 : decode cX10_run 151 = .ok (.iinc 4 1, 3) := by decide +kernel
theorem dX10_run_154 : decode cX10_run 154 = .ok (.goto (-133), 3) := by decide +kernel
theorem dX10_run_157 : decode cX10_run 157 = .ok (.bipush (-4), 2) := by decide +kernel
theorem dX10_run_159 : decode cX10_run 159 = .ok (.ireturn, 1) := by decide +kernel
set_option maxRecDepth 20000 in
theorem ggX10_unlike_X10_in : GoodIn wsX10_unlike wsX10_in := goodIn_r _ [5] (by decide +kernel) (by decide +kernel)
set_option maxRecDepth 20000 in
theorem gX10_unlike_X10_in : GoodIn wsX10_unlike (va_wsS RX10 28 yX10_in wsX10_in) := goodIn_app (goodIn_of _ (by decide +kernel)) ggX10_unlike_X10_in
set_option maxRecDepth 20000 in
theorem ggX10_unlike_X10_kinds : GoodIn wsX10_unlike wsX10_kinds := goodIn_r _ [9, 10, 11, 12, 4, 13, 14, 15, 16, 17, 18, 19, 20, 21, 1, 22, 23, 24, 25, 26, 27] (by decide +kernel) (by decide +kernel)
set_option maxRecDepth 20000 in
theorem gX10_unlike_X10_kinds : GoodIn wsX10_unlike (wsV RX10 126 RX10 yX10_kinds wsX10_kinds) := goodIn_app (goodIn_of _ (by decide +kernel)) ggX10_unlike_X10_kinds
theorem dX10_unlike_0 : decode cX10_unlike 0 = .ok (.iload_n 1, 1) := by decide +kernel
theorem dX10_unlike_1 : decode cX10_unlike 1 = .ok (.iconst 0, 1) := by decide +kernel
theorem dX10_unlike_2 : decode cX10_unlike 2 = .ok (.aload_n 0, 1) := by decide +kernel
theorem dX10_unlike_3 : decode cX10_unlike 3 = .ok (.getfield 7, 3) := by decide +kernel
theorem dX10_unlike_6 : decode cX10_unlike 6 = .ok (.iconst 0, 1) := by decide +kernel
theorem dX10_unlike_7 : decode cX10_unlike 7 = .ok (.iaload, 1) := by decide +kernel
theorem dX10_unlike_8 : decode cX10_unlike 8 = .ok (.invokestatic 28, 3) := by decide +kernel
theorem dX10_unlike_11 : decode cX10_unlike 11 = .ok (.ifCond .eq 12, 3) := by decide +kernel
theorem dX10_unlike_14 : decode cX10_unlike 14 = .ok (.aload_n 0, 1) := by decide +kernel
theorem dX10_unlike_15 : decode cX10_unlike 15 = .ok (.iconst 0, 1) := by decide +kernel
theorem dX10_unlike_16 : decode cX10_unlike 16 = .ok (.iload_n 1, 1) := by decide +kernel
theorem dX10_unlike_17 : decode cX10_unlike 17 = .ok (.invokevirtual 126, 3) := by decide +kernel
theorem dX10_unlike_20 : decode cX10_unlike 20 = .ok (.goto 4, 3) := by decide +kernel
theorem dX10_unlike_23 : decode cX10_unlike 23 = .ok (.iconst (-1), 1) := by decide +kernel
theorem dX10_unlike_24 : decode cX10_unlike 24 = .ok (.ireturn, 1) := by decide +kernel
set_option maxRecDepth 20000 in
theorem ggX10_tries_X10_copies : GoodIn wsX10_tries wsX10_copies := goodIn_r _ [6, 1, 47, 48, 49, 50, 51, 52] (by decide +kernel) (by decide +kernel)
set_option maxRecDepth 20000 in
theorem gX10_tries_X10_copies : GoodIn wsX10_tries (wsV RX10 24 RX10 yX10_copies wsX10_copies) := goodIn_app (goodIn_of _ (by decide +kernel)) ggX10_tries_X10_copies
set_option maxRecDepth 20000 in
theorem ggX10_tries_X10_edge : GoodIn wsX10_tries wsX10_edge := goodIn_r _ [10, 11, 12, 13, 5, 14, 15, 16, 17, 18, 1, 47, 48, 49, 50, 51, 52] (by decide +kernel) (by decide +kernel)
set_option maxRecDepth 20000 in
theorem gX10_tries_X10_edge : GoodIn wsX10_tries (wsV RX10 40 RX10 yX10_edge wsX10_edge) := goodIn_app (goodIn_of _ (by decide +kernel)) ggX10_tries_X10_edge
set_option maxRecDepth 20000 in
theorem ggX10_tries_X10_kinds : GoodIn wsX10_tries wsX10_kinds := goodIn_r _ [22, 23, 24, 25, 5, 26, 11, 12, 13, 14, 15, 16, 17, 18, 1, 47, 48, 49, 50, 51, 52] (by decide +kernel) (by decide +kernel)
set_option maxRecDepth 20000 in
theorem gX10_tries_X10_kinds : GoodIn wsX10_tries (wsV RX10 126 RX10 yX10_kinds wsX10_kinds) := goodIn_app (goodIn_of _ (by decide +kernel)) ggX10_tries_X10_kinds
set_option maxRecDepth 20000 in
theorem ggX10_tries_X10_squares : GoodIn wsX10_tries wsX10_squares := goodIn_r _ [30, 1, 31, 32, 33, 5, 34, 11, 12, 13, 14, 15, 16, 17, 18, 47, 48, 49, 50, 51, 52] (by decide +kernel) (by decide +kernel)
set_option maxRecDepth 20000 in
theorem gX10_tries_X10_squares : GoodIn wsX10_tries (wsV RX10 109 RX10 yX10_squares wsX10_squares) := goodIn_app (goodIn_of _ (by decide +kernel)) ggX10_tries_X10_squares
set_option maxRecDepth 20000 in
theorem ggX10_tries_X10_runs : GoodIn wsX10_tries wsX10_runs := goodIn_r _ [38, 1, 39, 40, 41, 5, 42, 15, 16, 17, 18, 43, 44, 45, 46, 7, 8, 9, 10, 11, 12, 13, 14, 47, 48, 49, 50, 51, 52] (by decide +kernel) (by decide +kernel)
set_option maxRecDepth 20000 in
theorem gX10_tries_X10_runs : GoodIn wsX10_tries (wsV RX10 129 RX10 yX10_runs wsX10_runs) := goodIn_app (goodIn_of _ (by decide +kernel)) ggX10_tries_X10_runs
theorem dX10_tries_0 : decode cX10_tries 0 = .ok (.aload_n 0, 1) := by decide +kernel
theorem dX10_tries_1 : decode cX10_tries 1 = .ok (.iconst 0, 1) := by decide +kernel
theorem dX10_tries_2 : decode cX10_tries 2 = .ok (.bipush 6, 2) := by decide +kernel
theorem dX10_tries_4 : decode cX10_tries 4 = .ok (.invokevirtual 24, 3) := by decide +kernel
theorem dX10_tries_7 : decode cX10_tries 7 = .ok (.sipush 246, 3) := by decide +kernel
theorem dX10_tries_10 : decode cX10_tries 10 = .ok (.istore_n 3, 1) := by decide +kernel
theorem dX10_tries_11 : decode cX10_tries 11 = .ok (.aload_n 0, 1) := by decide +kernel
theorem dX10_tries_12 : decode cX10_tries 12 = .ok (.getfield 7, 3) := by decide +kernel
theorem dX10_tries_15 : decode cX10_tries 15 = .ok (.iload_n 3, 1) := by decide +kernel
theorem dX10_tries_16 : decode cX10_tries 16 = .ok (.dup2, 1) := by decide +kernel
theorem dX10_tries_17 : decode cX10_tries 17 = .ok (.iaload, 1) := by decide +kernel
theorem dX10_tries_18 : decode cX10_tries 18 = .ok (.iconst 1, 1) := by decide +kernel
theorem dX10_tries_19 : decode cX10_tries 19 = .ok (.iadd, 1) := by decide +kernel
theorem dX10_tries_20 : decode cX10_tries 20 = .ok (.iastore, 1) := by decide +kernel
theorem dX10_tries_21 : decode cX10_tries 21 = .ok (.aload_n 0, 1) := by decide +kernel
theorem dX10_tries_22 : decode cX10_tries 22 = .ok (.getfield 7, 3) := by decide +kernel
theorem dX10_tries_25 : decode cX10_tries 25 = .ok (.iload_n 3, 1) := by decide +kernel
theorem dX10_tries_26 : decode cX10_tries 26 = .ok (.aload_n 0, 1) := by decide +kernel
theorem dX10_tries_27 : decode cX10_tries 27 = .ok (.getfield 7, 3) := by decide +kernel
theorem dX10_tries_30 : decode cX10_tries 30 = .ok (.iload_n 3, 1) := by decide +kernel
theorem dX10_tries_31 : decode cX10_tries 31 = .ok (.iaload, 1) := by decide +kernel
theorem dX10_tries_32 : decode cX10_tries 32 = .ok (.iadd, 1) := by decide +kernel
theorem dX10_tries_33 : decode cX10_tries 33 = .ok (.iload_n 1, 1) := by decide +kernel
theorem dX10_tries_34 : decode cX10_tries 34 = .ok (.iastore, 1) := by decide +kernel
theorem dX10_tries_35 : decode cX10_tries 35 = .ok (.iload_n 2, 1) := by decide +kernel
theorem dX10_tries_36 : decode cX10_tries 36 = .ok (.ifCond .ne 24, 3) := by decide +kernel
theorem dX10_tries_39 : decode cX10_tries 39 = .ok (.aload_n 0, 1) := by decide +kernel
theorem dX10_tries_40 : decode cX10_tries 40 = .ok (.iload_n 3, 1) := by decide +kernel
theorem dX10_tries_41 : decode cX10_tries 41 = .ok (.iconst 0, 1) := by decide +kernel
theorem dX10_tries_42 : decode cX10_tries 42 = .ok (.aload_n 0, 1) := by decide +kernel
theorem dX10_tries_43 : decode cX10_tries 43 = .ok (.getfield 7, 3) := by decide +kernel
theorem dX10_tries_46 : decode cX10_tries 46 = .ok (.iload_n 3, 1) := by decide +kernel
theorem dX10_tries_47 : decode cX10_tries 47 = .ok (.iaload, 1) := by decide +kernel
theorem dX10_tries_48 : decode cX10_tries 48 = .ok (.aload_n 0, 1) := by decide +kernel
theorem dX10_tries_49 : decode cX10_tries 49 = .ok (.getfield 7, 3) := by decide +kernel
theorem dX10_tries_52 : decode cX10_tries 52 = .ok (.iload_n 3, 1) := by decide +kernel
theorem dX10_tries_53 : decode cX10_tries 53 = .ok (.iaload, 1) := by decide +kernel
theorem dX10_tries_54 : decode cX10_tries 54 = .ok (.invokevirtual 40, 3) := by decide +kernel
theorem dX10_tries_57 : decode cX10_tries 57 = .ok (.goto 58, 3) := by decide +kernel
theorem dX10_tries_60 : decode cX10_tries 60 = .ok (.iload_n 2, 1) := by decide +kernel
theorem dX10_tries_61 : decode cX10_tries 61 = .ok (.iconst 1, 1) := by decide +kernel
theorem dX10_tries_62 : decode cX10_tries 62 = .ok (.if_icmp .ne 29, 3) := by decide +kernel
theorem dX10_tries_65 : decode cX10_tries 65 = .ok (.aload_n 0, 1) := by decide +kernel
theorem dX10_tries_66 : decode cX10_tries 66 = .ok (.iload_n 3, 1) := by decide +kernel
theorem dX10_tries_67 : decode cX10_tries 67 = .ok (.aload_n 0, 1) := by decide +kernel
theorem dX10_tries_68 : decode cX10_tries 68 = .ok (.getfield 7, 3) := by decide +kernel
theorem dX10_tries_71 : decode cX10_tries 71 = .ok (.iload_n 3, 1) := by decide +kernel
theorem dX10_tries_72 : decode cX10_tries 72 = .ok (.iaload, 1) := by decide +kernel
theorem dX10_tries_73 : decode cX10_tries 73 = .ok (.invokevirtual 126, 3) := by decide +kernel
theorem dX10_tries_76 : decode cX10_tries 76 = .ok (.aload_n 0, 1) := by decide +kernel
theorem dX10_tries_77 : decode cX10_tries 77 = .ok (.iconst 0, 1) := by decide +kernel
theorem dX10_tries_78 : decode cX10_tries 78 = .ok (.aload_n 0, 1) := by decide +kernel
theorem dX10_tries_79 : decode cX10_tries 79 = .ok (.getfield 7, 3) := by decide +kernel
theorem dX10_tries_82 : decode cX10_tries 82 = .ok (.iconst 0, 1) := by decide +kernel
theorem dX10_tries_83 : decode cX10_tries 83 = .ok (.iaload, 1) := by decide +kernel
theorem dX10_tries_84 : decode cX10_tries 84 = .ok (.invokevirtual 126, 3) := by decide +kernel
theorem dX10_tries_87 : decode cX10_tries 87 = .ok (.isub, 1) := by decide +kernel
theorem dX10_tries_88 : decode cX10_tries 88 = .ok (.goto 27, 3) := by decide +kernel
theorem dX10_tries_91 : decode cX10_tries 91 = .ok (.iload_n 2, 1) := by decide +kernel
theorem dX10_tries_92 : decode cX10_tries 92 = .ok (.iconst 2, 1) := by decide +kernel
theorem dX10_tries_93 : decode cX10_tries 93 = .ok (.if_icmp .ne 17, 3) := by decide +kernel
theorem dX10_tries_96 : decode cX10_tries 96 = .ok (.aload_n 0, 1) := by decide +kernel
theorem dX10_tries_97 : decode cX10_tries 97 = .ok (.iload_n 3, 1) := by decide +kernel
theorem dX10_tries_98 : decode cX10_tries 98 = .ok (.aload_n 0, 1) := by decide +kernel
theorem dX10_tries_99 : decode cX10_tries 99 = .ok (.getfield 7, 3) := by decide +kernel
theorem dX10_tries_102 : decode cX10_tries 102 = .ok (.iload_n 3, 1) := by decide +kernel
theorem dX10_tries_103 : decode cX10_tries 103 = .ok (.iaload, 1) := by decide +kernel
theorem dX10_tries_104 : decode cX10_tries 104 = .ok (.invokevirtual 109, 3) := by decide +kernel
theorem dX10_tries_107 : decode cX10_tries 107 = .ok (.goto 8, 3) := by decide +kernel
theorem dX10_tries_110 : decode cX10_tries 110 = .ok (.aload_n 0, 1) := by decide +kernel
theorem dX10_tries_111 : decode cX10_tries 111 = .ok (.iload_n 3, 1) := by decide +kernel
theorem dX10_tries_112 : decode cX10_tries 112 = .ok (.invokevirtual 129, 3) := by decide +kernel
theorem dX10_tries_115 : decode cX10_tries 115 = .ok (.ireturn, 1) := by decide +kernel
set_option maxRecDepth 20000 in
theorem ggX10_ifLetter_X10_in : GoodIn wsX10_ifLetter wsX10_in := goodIn_r _ [5] (by decide +kernel) (by decide +kernel)
set_option maxRecDepth 20000 in
theorem gX10_ifLetter_X10_in : GoodIn wsX10_ifLetter (va_wsS RX10 28 yX10_in wsX10_in) := goodIn_app (goodIn_of _ (by decide +kernel)) ggX10_ifLetter_X10_in
set_option maxRecDepth 20000 in
theorem ggX10_ifLetter_X10_tries : GoodIn wsX10_ifLetter wsX10_tries := goodIn_r _ [9, 1, 10, 11, 12, 4, 13, 14, 15, 16, 17, 18, 19, 20, 21, 22, 23, 24, 25, 26, 27, 28, 29, 30, 31, 32, 33, 34, 35, 36, 37, 38, 39, 40, 41, 42, 43, 44, 45, 46, 47, 48, 49, 50, 51, 52, 53, 54, 55, 56, 57, 58, 59] (by decide +kernel) (by decide +kernel)
set_option maxRecDepth 20000 in
theorem gX10_ifLetter_X10_tries : GoodIn wsX10_ifLetter (wsV RX10 132 RX10 yX10_tries wsX10_tries) := goodIn_app (goodIn_of _ (by decide +kernel)) ggX10_ifLetter_X10_tries
theorem dX10_ifLetter_0 : decode cX10_ifLetter 0 = .ok (.iload_n 1, 1) := by decide +kernel
theorem dX10_ifLetter_1 : decode cX10_ifLetter 1 = .ok (.iconst 0, 1) := by decide +kernel
theorem dX10_ifLetter_2 : decode cX10_ifLetter 2 = .ok (.bipush 25, 2) := by decide +kernel
theorem dX10_ifLetter_4 : decode cX10_ifLetter 4 = .ok (.invokestatic 28, 3) := by decide +kernel
theorem dX10_ifLetter_7 : decode cX10_ifLetter 7 = .ok (.ifCond .eq 12, 3) := by decide +kernel
theorem dX10_ifLetter_10 : decode cX10_ifLetter 10 = .ok (.iload_n 2, 1) := by decide +kernel
theorem dX10_ifLetter_11 : decode cX10_ifLetter 11 = .ok (.iconst 0, 1) := by decide +kernel
theorem dX10_ifLetter_12 : decode cX10_ifLetter 12 = .ok (.iconst 3, 1) := by decide +kernel
theorem dX10_ifLetter_13 : decode cX10_ifLetter 13 = .ok (.invokestatic 28, 3) := by decide +kernel
theorem dX10_ifLetter_16 : decode cX10_ifLetter 16 = .ok (.ifCond .ne 6, 3) := by decide +kernel
theorem dX10_ifLetter_19 : decode cX10_ifLetter 19 = .ok (.bipush (-2), 2) := by decide +kernel
theorem dX10_ifLetter_21 : decode cX10_ifLetter 21 = .ok (.ireturn, 1) := by decide +kernel
theorem dX10_ifLetter_22 : decode cX10_ifLetter 22 = .ok (.aload_n 0, 1) := by decide +kernel
theorem dX10_ifLetter_23 : decode cX10_ifLetter 23 = .ok (.getfield 7, 3) := by decide +kernel
theorem dX10_ifLetter_26 : decode cX10_ifLetter 26 = .ok (.iconst 0, 1) := by decide +kernel
theorem dX10_ifLetter_27 : decode cX10_ifLetter 27 = .ok (.iaload, 1) := by decide +kernel
theorem dX10_ifLetter_28 : decode cX10_ifLetter 28 = .ok (.bipush 40, 2) := by decide +kernel
theorem dX10_ifLetter_30 : decode cX10_ifLetter 30 = .ok (.if_icmp .ne 8, 3) := by decide +kernel
theorem dX10_ifLetter_33 : decode cX10_ifLetter 33 = .ok (.bipush (-3), 2) := by decide +kernel
theorem dX10_ifLetter_35 : decode cX10_ifLetter 35 = .ok (.goto 9, 3) := by decide +kernel
theorem dX10_ifLetter_38 : decode cX10_ifLetter 38 = .ok (.aload_n 0, 1) := by decide +kernel
theorem dX10_ifLetter_39 : decode cX10_ifLetter 39 = .ok (.iload_n 1, 1) := by decide +kernel
theorem dX10_ifLetter_40 : decode cX10_ifLetter 40 = .ok (.iload_n 2, 1) := by decide +kernel
theorem dX10_ifLetter_41 : decode cX10_ifLetter 41 = .ok (.invokevirtual 132, 3) := by decide +kernel
theorem dX10_ifLetter_44 : decode cX10_ifLetter 44 = .ok (.ireturn, 1) := by decide +kernel
set_option maxRecDepth 20000 in
theorem ggX10_bestLetter_X10_in : GoodIn wsX10_bestLetter wsX10_in := goodIn_r _ [5] (by decide +kernel) (by decide +kernel)
set_option maxRecDepth 20000 in
theorem gX10_bestLetter_X10_in : GoodIn wsX10_bestLetter (va_wsS RX10 28 yX10_in wsX10_in) := goodIn_app (goodIn_of _ (by decide +kernel)) ggX10_bestLetter_X10_in
set_option maxRecDepth 20000 in
theorem ggX10_bestLetter_X10_tries : GoodIn wsX10_bestLetter wsX10_tries := goodIn_r _ [9, 1, 10, 11, 12, 4, 13, 14, 15, 16, 17, 18, 19, 20, 21, 22, 23, 24, 25, 26, 27, 28, 29, 30, 31, 32, 33, 34, 35, 36, 37, 38, 39, 40, 41, 42, 43, 44, 45, 46, 47, 48, 49, 50, 51, 52, 53, 54, 55, 56, 57, 58, 59] (by decide +kernel) (by decide +kernel)
set_option maxRecDepth 20000 in
theorem gX10_bestLetter_X10_tries : GoodIn wsX10_bestLetter (wsV RX10 132 RX10 yX10_tries wsX10_tries) := goodIn_app (goodIn_of _ (by decide +kernel)) ggX10_bestLetter_X10_tries
theorem dX10_bestLetter_0 : decode cX10_bestLetter 0 = .ok (.iload_n 1, 1) := by decide +kernel
theorem dX10_bestLetter_1 : decode cX10_bestLetter 1 = .ok (.iconst 0, 1) := by decide +kernel
theorem dX10_bestLetter_2 : decode cX10_bestLetter 2 = .ok (.iconst 3, 1) := by decide +kernel
theorem dX10_bestLetter_3 : decode cX10_bestLetter 3 = .ok (.invokestatic 28, 3) := by decide +kernel
theorem dX10_bestLetter_6 : decode cX10_bestLetter 6 = .ok (.ifCond .ne 6, 3) := by decide +kernel
theorem dX10_bestLetter_9 : decode cX10_bestLetter 9 = .ok (.bipush (-2), 2) := by decide +kernel
theorem dX10_bestLetter_11 : decode cX10_bestLetter 11 = .ok (.ireturn, 1) := by decide +kernel
theorem dX10_bestLetter_12 : decode cX10_bestLetter 12 = .ok (.aload_n 0, 1) := by decide +kernel
theorem dX10_bestLetter_13 : decode cX10_bestLetter 13 = .ok (.getfield 7, 3) := by decide +kernel
theorem dX10_bestLetter_16 : decode cX10_bestLetter 16 = .ok (.iconst 0, 1) := by decide +kernel
theorem dX10_bestLetter_17 : decode cX10_bestLetter 17 = .ok (.iaload, 1) := by decide +kernel
theorem dX10_bestLetter_18 : decode cX10_bestLetter 18 = .ok (.bipush 40, 2) := by decide +kernel
theorem dX10_bestLetter_20 : decode cX10_bestLetter 20 = .ok (.if_icmp .ne 6, 3) := by decide +kernel
theorem dX10_bestLetter_23 : decode cX10_bestLetter 23 = .ok (.bipush (-3), 2) := by decide +kernel
theorem dX10_bestLetter_25 : decode cX10_bestLetter 25 = .ok (.ireturn, 1) := by decide +kernel
theorem dX10_bestLetter_26 : decode cX10_bestLetter 26 = .ok (.iconst 0, 1) := by decide +kernel
theorem dX10_bestLetter_27 : decode cX10_bestLetter 27 = .ok (.istore_n 2, 1) := by decide +kernel
theorem dX10_bestLetter_28 : decode cX10_bestLetter 28 = .ok (.iconst (-1), 1) := by decide +kernel
theorem dX10_bestLetter_29 : decode cX10_bestLetter 29 = .ok (.istore_n 3, 1) := by decide +kernel
theorem dX10_bestLetter_30 : decode cX10_bestLetter 30 = .ok (.iconst 0, 1) := by decide +kernel
theorem dX10_bestLetter_31 : decode cX10_bestLetter 31 = .ok (.istore 4, 2) := by decide +kernel
theorem dX10_bestLetter_33 : decode cX10_bestLetter 33 = .ok (.iload 4, 2) := by decide +kernel
theorem dX10_bestLetter_35 : decode cX10_bestLetter 35 = .ok (.bipush 26, 2) := by decide +kernel
theorem dX10_bestLetter_37 : decode cX10_bestLetter 37 = .ok (.if_icmp .ge 44, 3) := by decide +kernel
theorem dX10_bestLetter_40 : decode cX10_bestLetter 40 = .ok (.aload_n 0, 1) := by decide +kernel
theorem dX10_bestLetter_41 : decode cX10_bestLetter 41 = .ok (.iload 4, 2) := by decide +kernel
theorem dX10_bestLetter_43 : decode cX10_bestLetter 43 = .ok (.iload_n 1, 1) := by decide +kernel
theorem dX10_bestLetter_44 : decode cX10_bestLetter 44 = .ok (.invokevirtual 132, 3) := by decide +kernel
theorem dX10_bestLetter_47 : decode cX10_bestLetter 47 = .ok (.istore 5, 2) := by decide +kernel
theorem dX10_bestLetter_49 : decode cX10_bestLetter 49 = .ok (.iload 5, 2) := by decide +kernel
theorem dX10_bestLetter_51 : decode cX10_bestLetter 51 = .ok (.iload_n 3, 1) := by decide +kernel
theorem dX10_bestLetter_52 : decode cX10_bestLetter 52 = .ok (.if_icmp .le 8, 3) := by decide +kernel
theorem dX10_bestLetter_55 : decode cX10_bestLetter 55 = .ok (.iload 4, 2) := by decide +kernel
theorem dX10_bestLetter_57 : decode cX10_bestLetter 57 = .ok (.goto 4, 3) := by decide +kernel
theorem dX10_bestLetter_60 : decode cX10_bestLetter 60 = .ok (.iload_n 2, 1) := by decide +kernel
theorem dX10_bestLetter_61 : decode cX10_bestLetter 61 = .ok (.istore_n 2, 1) := by decide +kernel
theorem dX10_bestLetter_62 : decode cX10_bestLetter 62 = .ok (.iload 5, 2) := by decide +kernel
theorem dX10_bestLetter_64 : decode cX10_bestLetter 64 = .ok (.iload_n 3, 1) := by decide +kernel
theorem dX10_bestLetter_65 : decode cX10_bestLetter 65 = .ok (.if_icmp .le 8, 3) := by decide +kernel
theorem dX10_bestLetter_68 : decode cX10_bestLetter 68 = .ok (.iload 5, 2) := by decide +kernel
theorem dX10_bestLetter_70 : decode cX10_bestLetter 70 = .ok (.goto 4, 3) := by decide +kernel
theorem dX10_bestLetter_73 : decode cX10_bestLetter 73 = .ok (.iload_n 3, 1) := by decide +kernel
theorem dX10_bestLetter_74 : decode cX10_bestLetter 74 = .ok (.istore_n 3, 1) := by decide +kernel
theorem dX10_bestLetter_75 : decode cX10_bestLetter 75 = .ok (.iinc 4 1, 3) := by decide +kernel
theorem dX10_bestLetter_78 : decode cX10_bestLetter 78 = .ok (.goto (-45), 3) := by decide +kernel
theorem dX10_bestLetter_81 : decode cX10_bestLetter 81 = .ok (.iload_n 2, 1) := by decide +kernel
theorem dX10_bestLetter_82 : decode cX10_bestLetter 82 = .ok (.ireturn, 1) := by decide +kernel
set_option maxRecDepth 20000 in
theorem ggX10_letters_X10_letAt : GoodIn wsX10_letters wsX10_letAt := goodIn_r _ [6, 1, 11, 12, 13, 14, 15, 16] (by decide +kernel) (by decide +kernel)
set_option maxRecDepth 20000 in
theorem gX10_letters_X10_letAt : GoodIn wsX10_letters (wsV RX10 32 RX10 yX10_letAt wsX10_letAt) := goodIn_app (goodIn_of _ (by decide +kernel)) ggX10_letters_X10_letAt
set_option maxRecDepth 20000 in
theorem ggX10_letters_X10_bits : GoodIn wsX10_letters wsX10_bits := goodIn_r _ [10] (by decide +kernel) (by decide +kernel)
set_option maxRecDepth 20000 in
theorem gX10_letters_X10_bits : GoodIn wsX10_letters (wsV RX10 112 RX10 yX10_bits wsX10_bits) := goodIn_app (goodIn_of _ (by decide +kernel)) ggX10_letters_X10_bits
theorem dX10_letters_0 : decode cX10_letters 0 = .ok (.iconst 0, 1) := by decide +kernel
theorem dX10_letters_1 : decode cX10_letters 1 = .ok (.istore_n 1, 1) := by decide +kernel
theorem dX10_letters_2 : decode cX10_letters 2 = .ok (.iconst 0, 1) := by decide +kernel
theorem dX10_letters_3 : decode cX10_letters 3 = .ok (.istore_n 2, 1) := by decide +kernel
theorem dX10_letters_4 : decode cX10_letters 4 = .ok (.iload_n 2, 1) := by decide +kernel
theorem dX10_letters_5 : decode cX10_letters 5 = .ok (.aload_n 0, 1) := by decide +kernel
theorem dX10_letters_6 : decode cX10_letters 6 = .ok (.getfield 7, 3) := by decide +kernel
theorem dX10_letters_9 : decode cX10_letters 9 = .ok (.iconst 0, 1) := by decide +kernel
theorem dX10_letters_10 : decode cX10_letters 10 = .ok (.iaload, 1) := by decide +kernel
theorem dX10_letters_11 : decode cX10_letters 11 = .ok (.if_icmp .ge 20, 3) := by decide +kernel
theorem dX10_letters_14 : decode cX10_letters 14 = .ok (.iload_n 1, 1) := by decide +kernel
theorem dX10_letters_15 : decode cX10_letters 15 = .ok (.iconst 1, 1) := by decide +kernel
theorem dX10_letters_16 : decode cX10_letters 16 = .ok (.aload_n 0, 1) := by decide +kernel
theorem dX10_letters_17 : decode cX10_letters 17 = .ok (.iconst 0, 1) := by decide +kernel
theorem dX10_letters_18 : decode cX10_letters 18 = .ok (.iload_n 2, 1) := by decide +kernel
theorem dX10_letters_19 : decode cX10_letters 19 = .ok (.invokevirtual 32, 3) := by decide +kernel
theorem dX10_letters_22 : decode cX10_letters 22 = .ok (.ishl, 1) := by decide +kernel
theorem dX10_letters_23 : decode cX10_letters 23 = .ok (.ior, 1) := by decide +kernel
theorem dX10_letters_24 : decode cX10_letters 24 = .ok (.istore_n 1, 1) := by decide +kernel
theorem dX10_letters_25 : decode cX10_letters 25 = .ok (.iinc 2 1, 3) := by decide +kernel
theorem dX10_letters_28 : decode cX10_letters 28 = .ok (.goto (-24), 3) := by decide +kernel
theorem dX10_letters_31 : decode cX10_letters 31 = .ok (.aload_n 0, 1) := by decide +kernel
theorem dX10_letters_32 : decode cX10_letters 32 = .ok (.iload_n 1, 1) := by decide +kernel
theorem dX10_letters_33 : decode cX10_letters 33 = .ok (.i2l, 1) := by decide +kernel
theorem dX10_letters_34 : decode cX10_letters 34 = .ok (.invokevirtual 112, 3) := by decide +kernel
theorem dX10_letters_37 : decode cX10_letters 37 = .ok (.ireturn, 1) := by decide +kernel
set_option maxRecDepth 20000 in
theorem ggX10_longestTwice_X10_alikeFrom : GoodIn wsX10_longestTwice wsX10_alikeFrom := goodIn_r _ [6, 1, 7, 8, 9, 5, 10, 11, 12, 13, 14, 15, 16] (by decide +kernel) (by decide +kernel)
set_option maxRecDepth 20000 in
theorem gX10_longestTwice_X10_alikeFrom : GoodIn wsX10_longestTwice (wsV RX10 64 RX10 yX10_alikeFrom wsX10_alikeFrom) := goodIn_app (goodIn_of _ (by decide +kernel)) ggX10_longestTwice_X10_alikeFrom
theorem dX10_longestTwice_0 : decode cX10_longestTwice 0 = .ok (.iconst 0, 1) := by decide +kernel
theorem dX10_longestTwice_1 : decode cX10_longestTwice 1 = .ok (.istore_n 1, 1) := by decide +kernel
theorem dX10_longestTwice_2 : decode cX10_longestTwice 2 = .ok (.iconst 0, 1) := by decide +kernel
theorem dX10_longestTwice_3 : decode cX10_longestTwice 3 = .ok (.istore_n 2, 1) := by decide +kernel
theorem dX10_longestTwice_4 : decode cX10_longestTwice 4 = .ok (.iload_n 2, 1) := by decide +kernel
theorem dX10_longestTwice_5 : decode cX10_longestTwice 5 = .ok (.aload_n 0, 1) := by decide +kernel
theorem dX10_longestTwice_6 : decode cX10_longestTwice 6 = .ok (.getfield 7, 3) := by decide +kernel
theorem dX10_longestTwice_9 : decode cX10_longestTwice 9 = .ok (.iconst 0, 1) := by decide +kernel
theorem dX10_longestTwice_10 : decode cX10_longestTwice 10 = .ok (.iaload, 1) := by decide +kernel
theorem dX10_longestTwice_11 : decode cX10_longestTwice 11 = .ok (.if_icmp .ge 50, 3) := by decide +kernel
theorem dX10_longestTwice_14 : decode cX10_longestTwice 14 = .ok (.iload_n 2, 1) := by decide +kernel
theorem dX10_longestTwice_15 : decode cX10_longestTwice 15 = .ok (.iconst 1, 1) := by decide +kernel
theorem dX10_longestTwice_16 : decode cX10_longestTwice 16 = .ok (.iadd, 1) := by decide +kernel
theorem dX10_longestTwice_17 : decode cX10_longestTwice 17 = .ok (.istore_n 3, 1) := by decide +kernel
theorem dX10_longestTwice_18 : decode cX10_longestTwice 18 = .ok (.iload_n 3, 1) := by decide +kernel
theorem dX10_longestTwice_19 : decode cX10_longestTwice 19 = .ok (.aload_n 0, 1) := by decide +kernel
theorem dX10_longestTwice_20 : decode cX10_longestTwice 20 = .ok (.getfield 7, 3) := by decide +kernel
theorem dX10_longestTwice_23 : decode cX10_longestTwice 23 = .ok (.iconst 0, 1) := by decide +kernel
theorem dX10_longestTwice_24 : decode cX10_longestTwice 24 = .ok (.iaload, 1) := by decide +kernel
theorem dX10_longestTwice_25 : decode cX10_longestTwice 25 = .ok (.if_icmp .ge 30, 3) := by decide +kernel
theorem dX10_longestTwice_28 : decode cX10_longestTwice 28 = .ok (.aload_n 0, 1) := by decide +kernel
theorem dX10_longestTwice_29 : decode cX10_longestTwice 29 = .ok (.iload_n 2, 1) := by decide +kernel
theorem dX10_longestTwice_30 : decode cX10_longestTwice 30 = .ok (.iload_n 3, 1) := by decide +kernel
theorem dX10_longestTwice_31 : decode cX10_longestTwice 31 = .ok (.invokevirtual 64, 3) := by decide +kernel
theorem dX10_longestTwice_34 : decode cX10_longestTwice 34 = .ok (.istore 4, 2) := by decide +kernel
theorem dX10_longestTwice_36 : decode cX10_longestTwice 36 = .ok (.iload 4, 2) := by decide +kernel
theorem dX10_longestTwice_38 : decode cX10_longestTwice 38 = .ok (.iload_n 1, 1) := by decide +kernel
theorem dX10_longestTwice_39 : decode cX10_longestTwice 39 = .ok (.if_icmp .le 8, 3) := by decide +kernel
theorem dX10_longestTwice_42 : decode cX10_longestTwice 42 = .ok (.iload 4, 2) := by decide +kernel
theorem dX10_longestTwice_44 : decode cX10_longestTwice 44 = .ok (.goto 4, 3) := by decide +kernel
theorem dX10_longestTwice_47 : decode cX10_longestTwice 47 = .ok (.iload_n 1, 1) := by decide +kernel
theorem dX10_longestTwice_48 : decode cX10_longestTwice 48 = .ok (.istore_n 1, 1) := by decide +kernel
theorem dX10_longestTwice_49 : decode cX10_longestTwice 49 = .ok (.iinc 3 1, 3) := by decide +kernel
theorem dX10_longestTwice_52 : decode cX10_longestTwice 52 = .ok (.goto (-34), 3) := by decide +kernel
theorem dX10_longestTwice_55 : decode cX10_longestTwice 55 = .ok (.iinc 2 1, 3) := by decide +kernel
theorem dX10_longestTwice_58 : decode cX10_longestTwice 58 = .ok (.goto (-54), 3) := by decide +kernel
theorem dX10_longestTwice_61 : decode cX10_longestTwice 61 = .ok (.iload_n 1, 1) := by decide +kernel
theorem dX10_longestTwice_62 : decode cX10_longestTwice 62 = .ok (.ireturn, 1) := by decide +kernel
set_option maxRecDepth 20000 in
theorem ggX10_count_X10_letters : GoodIn wsX10_count wsX10_letters := goodIn_r _ [8, 1, 9, 10, 11, 7, 12, 13, 14, 15, 16, 77, 78, 79, 80, 81, 82] (by decide +kernel) (by decide +kernel)
set_option maxRecDepth 20000 in
theorem gX10_count_X10_letters : GoodIn wsX10_count (wsV RX10 135 RX10 yX10_letters wsX10_letters) := goodIn_app (goodIn_of _ (by decide +kernel)) ggX10_count_X10_letters
set_option maxRecDepth 20000 in
theorem ggX10_count_X10_kinds : GoodIn wsX10_count wsX10_kinds := goodIn_r _ [20, 21, 22, 23, 7, 24, 25, 26, 27, 28, 9, 10, 11, 12, 1, 77, 78, 79, 80, 81, 82] (by decide +kernel) (by decide +kernel)
set_option maxRecDepth 20000 in
theorem gX10_count_X10_kinds : GoodIn wsX10_count (wsV RX10 126 RX10 yX10_kinds wsX10_kinds) := goodIn_app (goodIn_of _ (by decide +kernel)) ggX10_count_X10_kinds
set_option maxRecDepth 20000 in
theorem ggX10_count_X10_classes : GoodIn wsX10_count wsX10_classes := goodIn_r _ [32, 1, 21, 22, 23, 7, 24, 25, 26, 27, 28, 9, 10, 11, 12, 33, 34, 35, 36, 37, 38, 39, 40, 77, 78, 79, 80, 81, 82] (by decide +kernel) (by decide +kernel)
set_option maxRecDepth 20000 in
theorem gX10_count_X10_classes : GoodIn wsX10_count (wsV RX10 138 RX10 yX10_classes wsX10_classes) := goodIn_app (goodIn_of _ (by decide +kernel)) ggX10_count_X10_classes
set_option maxRecDepth 20000 in
theorem ggX10_count_X10_squares : GoodIn wsX10_count wsX10_squares := goodIn_r _ [44, 1, 45, 46, 47, 7, 48, 25, 26, 27, 28, 9, 10, 11, 12, 77, 78, 79, 80, 81, 82] (by decide +kernel) (by decide +kernel)
set_option maxRecDepth 20000 in
theorem gX10_count_X10_squares : GoodIn wsX10_count (wsV RX10 109 RX10 yX10_squares wsX10_squares) := goodIn_app (goodIn_of _ (by decide +kernel)) ggX10_count_X10_squares
set_option maxRecDepth 20000 in
theorem ggX10_count_X10_runs : GoodIn wsX10_count wsX10_runs := goodIn_r _ [52, 1, 53, 54, 55, 7, 56, 9, 10, 11, 12, 57, 58, 59, 60, 61, 62, 63, 64, 25, 26, 27, 28, 77, 78, 79, 80, 81, 82] (by decide +kernel) (by decide +kernel)
set_option maxRecDepth 20000 in
theorem gX10_count_X10_runs : GoodIn wsX10_count (wsV RX10 129 RX10 yX10_runs wsX10_runs) := goodIn_app (goodIn_of _ (by decide +kernel)) ggX10_count_X10_runs
set_option maxRecDepth 20000 in
theorem ggX10_count_X10_edge : GoodIn wsX10_count wsX10_edge := goodIn_r _ [64, 25, 26, 27, 7, 28, 9, 10, 11, 12, 1, 77, 78, 79, 80, 81, 82] (by decide +kernel) (by decide +kernel)
set_option maxRecDepth 20000 in
theorem gX10_count_X10_edge : GoodIn wsX10_count (wsV RX10 40 RX10 yX10_edge wsX10_edge) := goodIn_app (goodIn_of _ (by decide +kernel)) ggX10_count_X10_edge
set_option maxRecDepth 20000 in
theorem ggX10_count_X10_period : GoodIn wsX10_count wsX10_period := goodIn_r _ [60, 61, 62, 63, 7, 64, 25, 26, 27, 28, 9, 10, 11, 12, 1, 77, 78, 79, 80, 81, 82] (by decide +kernel) (by decide +kernel)
set_option maxRecDepth 20000 in
theorem gX10_count_X10_period : GoodIn wsX10_count (wsV RX10 57 RX10 yX10_period wsX10_period) := goodIn_app (goodIn_of _ (by decide +kernel)) ggX10_count_X10_period
set_option maxRecDepth 20000 in
theorem ggX10_count_X10_longestTwice : GoodIn wsX10_count wsX10_longestTwice := goodIn_r _ [68, 1, 69, 70, 71, 7, 72, 9, 10, 11, 12, 77, 78, 79, 80, 81, 82] (by decide +kernel) (by decide +kernel)
set_option maxRecDepth 20000 in
theorem gX10_count_X10_longestTwice : GoodIn wsX10_count (wsV RX10 141 RX10 yX10_longestTwice wsX10_longestTwice) := goodIn_app (goodIn_of _ (by decide +kernel)) ggX10_count_X10_longestTwice
set_option maxRecDepth 20000 in
theorem ggX10_count_X10_unlikeSquares : GoodIn wsX10_count wsX10_unlikeSquares := goodIn_r _ [76, 1, 45, 46, 47, 7, 48, 25, 26, 27, 28, 9, 10, 11, 12, 21, 22, 23, 24, 77, 78, 79, 80, 81, 82] (by decide +kernel) (by decide +kernel)
set_option maxRecDepth 20000 in
theorem gX10_count_X10_unlikeSquares : GoodIn wsX10_count (wsV RX10 144 RX10 yX10_unlikeSquares wsX10_unlikeSquares) := goodIn_app (goodIn_of _ (by decide +kernel)) ggX10_count_X10_unlikeSquares
theorem dX10_count_0 : decode cX10_count 0 = .ok (.iload_n 1, 1) := by decide +kernel
theorem dX10_count_1 : decode cX10_count 1 = .ok (.tableswitch 170 0 11 #[63, 70, 75, 87, 92, 99, 105, 124, 150, 155, 160, 165], 63) := by decide +kernel
theorem dX10_count_64 : decode cX10_count 64 = .ok (.aload_n 0, 1) := by decide +kernel
theorem dX10_count_65 : decode cX10_count 65 = .ok (.getfield 7, 3) := by decide +kernel
theorem dX10_count_68 : decode cX10_count 68 = .ok (.iconst 0, 1) := by decide +kernel
theorem dX10_count_69 : decode cX10_count 69 = .ok (.iaload, 1) := by decide +kernel
theorem dX10_count_70 : decode cX10_count 70 = .ok (.ireturn, 1) := by decide +kernel
theorem dX10_count_71 : decode cX10_count 71 = .ok (.aload_n 0, 1) := by decide +kernel
theorem dX10_count_72 : decode cX10_count 72 = .ok (.invokevirtual 135, 3) := by decide +kernel
theorem dX10_count_75 : decode cX10_count 75 = .ok (.ireturn, 1) := by decide +kernel
theorem dX10_count_76 : decode cX10_count 76 = .ok (.aload_n 0, 1) := by decide +kernel
theorem dX10_count_77 : decode cX10_count 77 = .ok (.iconst 0, 1) := by decide +kernel
theorem dX10_count_78 : decode cX10_count 78 = .ok (.aload_n 0, 1) := by decide +kernel
theorem dX10_count_79 : decode cX10_count 79 = .ok (.getfield 7, 3) := by decide +kernel
theorem dX10_count_82 : decode cX10_count 82 = .ok (.iconst 0, 1) := by decide +kernel
theorem dX10_count_83 : decode cX10_count 83 = .ok (.iaload, 1) := by decide +kernel
theorem dX10_count_84 : decode cX10_count 84 = .ok (.invokevirtual 126, 3) := by decide +kernel
theorem dX10_count_87 : decode cX10_count 87 = .ok (.ireturn, 1) := by decide +kernel
theorem dX10_count_88 : decode cX10_count 88 = .ok (.aload_n 0, 1) := by decide +kernel
theorem dX10_count_89 : decode cX10_count 89 = .ok (.invokevirtual 138, 3) := by decide +kernel
theorem dX10_count_92 : decode cX10_count 92 = .ok (.ireturn, 1) := by decide +kernel
theorem dX10_count_93 : decode cX10_count 93 = .ok (.aload_n 0, 1) := by decide +kernel
theorem dX10_count_94 : decode cX10_count 94 = .ok (.iconst 0, 1) := by decide +kernel
theorem dX10_count_95 : decode cX10_count 95 = .ok (.iconst (-1), 1) := by decide +kernel
theorem dX10_count_96 : decode cX10_count 96 = .ok (.invokevirtual 109, 3) := by decide +kernel
theorem dX10_count_99 : decode cX10_count 99 = .ok (.ireturn, 1) := by decide +kernel
theorem dX10_count_100 : decode cX10_count 100 = .ok (.aload_n 0, 1) := by decide +kernel
theorem dX10_count_101 : decode cX10_count 101 = .ok (.iconst 0, 1) := by decide +kernel
theorem dX10_count_102 : decode cX10_count 102 = .ok (.invokevirtual 129, 3) := by decide +kernel
theorem dX10_count_105 : decode cX10_count 105 = .ok (.ireturn, 1) := by decide +kernel
theorem dX10_count_106 : decode cX10_count 106 = .ok (.aload_n 0, 1) := by decide +kernel
theorem dX10_count_107 : decode cX10_count 107 = .ok (.iconst 0, 1) := by decide +kernel
theorem dX10_count_108 : decode cX10_count 108 = .ok (.iconst 0, 1) := by decide +kernel
theorem dX10_count_109 : decode cX10_count 109 = .ok (.aload_n 0, 1) := by decide +kernel
theorem dX10_count_110 : decode cX10_count 110 = .ok (.getfield 7, 3) := by decide +kernel
theorem dX10_count_113 : decode cX10_count 113 = .ok (.iconst 0, 1) := by decide +kernel
theorem dX10_count_114 : decode cX10_count 114 = .ok (.iaload, 1) := by decide +kernel
theorem dX10_count_115 : decode cX10_count 115 = .ok (.aload_n 0, 1) := by decide +kernel
theorem dX10_count_116 : decode cX10_count 116 = .ok (.getfield 7, 3) := by decide +kernel
theorem dX10_count_119 : decode cX10_count 119 = .ok (.iconst 0, 1) := by decide +kernel
theorem dX10_count_120 : decode cX10_count 120 = .ok (.iaload, 1) := by decide +kernel
theorem dX10_count_121 : decode cX10_count 121 = .ok (.invokevirtual 40, 3) := by decide +kernel
theorem dX10_count_124 : decode cX10_count 124 = .ok (.ireturn, 1) := by decide +kernel
theorem dX10_count_125 : decode cX10_count 125 = .ok (.aload_n 0, 1) := by decide +kernel
theorem dX10_count_126 : decode cX10_count 126 = .ok (.getfield 7, 3) := by decide +kernel
theorem dX10_count_129 : decode cX10_count 129 = .ok (.iconst 0, 1) := by decide +kernel
theorem dX10_count_130 : decode cX10_count 130 = .ok (.iaload, 1) := by decide +kernel
theorem dX10_count_131 : decode cX10_count 131 = .ok (.ifCond .ne 7, 3) := by decide +kernel
theorem dX10_count_134 : decode cX10_count 134 = .ok (.iconst 0, 1) := by decide +kernel
theorem dX10_count_135 : decode cX10_count 135 = .ok (.goto 15, 3) := by decide +kernel
theorem dX10_count_138 : decode cX10_count 138 = .ok (.aload_n 0, 1) := by decide +kernel
theorem dX10_count_139 : decode cX10_count 139 = .ok (.iconst 0, 1) := by decide +kernel
theorem dX10_count_140 : decode cX10_count 140 = .ok (.iconst 0, 1) := by decide +kernel
theorem dX10_count_141 : decode cX10_count 141 = .ok (.aload_n 0, 1) := by decide +kernel
theorem dX10_count_142 : decode cX10_count 142 = .ok (.getfield 7, 3) := by decide +kernel
theorem dX10_count_145 : decode cX10_count 145 = .ok (.iconst 0, 1) := by decide +kernel
theorem dX10_count_146 : decode cX10_count 146 = .ok (.iaload, 1) := by decide +kernel
theorem dX10_count_147 : decode cX10_count 147 = .ok (.invokevirtual 57, 3) := by decide +kernel
theorem dX10_count_150 : decode cX10_count 150 = .ok (.ireturn, 1) := by decide +kernel
theorem dX10_count_151 : decode cX10_count 151 = .ok (.aload_n 0, 1) := by decide +kernel
theorem dX10_count_152 : decode cX10_count 152 = .ok (.invokevirtual 141, 3) := by decide +kernel
theorem dX10_count_155 : decode cX10_count 155 = .ok (.ireturn, 1) := by decide +kernel
theorem dX10_count_156 : decode cX10_count 156 = .ok (.aload_n 0, 1) := by decide +kernel
theorem dX10_count_157 : decode cX10_count 157 = .ok (.invokevirtual 144, 3) := by decide +kernel
theorem dX10_count_160 : decode cX10_count 160 = .ok (.ireturn, 1) := by decide +kernel
theorem dX10_count_161 : decode cX10_count 161 = .ok (.aload_n 0, 1) := by decide +kernel
theorem dX10_count_162 : decode cX10_count 162 = .ok (.getfield 20, 3) := by decide +kernel
theorem dX10_count_165 : decode cX10_count 165 = .ok (.ireturn, 1) := by decide +kernel
theorem dX10_count_166 : decode cX10_count 166 = .ok (.aload_n 0, 1) := by decide +kernel
theorem dX10_count_167 : decode cX10_count 167 = .ok (.getfield 88, 3) := by decide +kernel
theorem dX10_count_170 : decode cX10_count 170 = .ok (.ireturn, 1) := by decide +kernel
theorem dX10_count_171 : decode cX10_count 171 = .ok (.bipush (-2), 2) := by decide +kernel
theorem dX10_count_173 : decode cX10_count 173 = .ok (.ireturn, 1) := by decide +kernel
theorem dJ6_bitCount_0f7a4_0 : decode cJ6_bitCount_0f7a4 0 = .ok (.iload_n 0, 1) := by decide +kernel
theorem dJ6_bitCount_0f7a4_1 : decode cJ6_bitCount_0f7a4 1 = .ok (.iload_n 0, 1) := by decide +kernel
theorem dJ6_bitCount_0f7a4_2 : decode cJ6_bitCount_0f7a4 2 = .ok (.iconst 1, 1) := by decide +kernel
theorem dJ6_bitCount_0f7a4_3 : decode cJ6_bitCount_0f7a4 3 = .ok (.iushr, 1) := by decide +kernel
theorem dJ6_bitCount_0f7a4_4 : decode cJ6_bitCount_0f7a4 4 = .ok (.ldc_w 265, 3) := by decide +kernel
theorem dJ6_bitCount_0f7a4_7 : decode cJ6_bitCount_0f7a4 7 = .ok (.iand, 1) := by decide +kernel
theorem dJ6_bitCount_0f7a4_8 : decode cJ6_bitCount_0f7a4 8 = .ok (.isub, 1) := by decide +kernel
theorem dJ6_bitCount_0f7a4_9 : decode cJ6_bitCount_0f7a4 9 = .ok (.istore_n 0, 1) := by decide +kernel
theorem dJ6_bitCount_0f7a4_10 : decode cJ6_bitCount_0f7a4 10 = .ok (.iload_n 0, 1) := by decide +kernel
theorem dJ6_bitCount_0f7a4_11 : decode cJ6_bitCount_0f7a4 11 = .ok (.ldc_w 266, 3) := by decide +kernel
theorem dJ6_bitCount_0f7a4_14 : decode cJ6_bitCount_0f7a4 14 = .ok (.iand, 1) := by decide +kernel
theorem dJ6_bitCount_0f7a4_15 : decode cJ6_bitCount_0f7a4 15 = .ok (.iload_n 0, 1) := by decide +kernel
theorem dJ6_bitCount_0f7a4_16 : decode cJ6_bitCount_0f7a4 16 = .ok (.iconst 2, 1) := by decide +kernel
theorem dJ6_bitCount_0f7a4_17 : decode cJ6_bitCount_0f7a4 17 = .ok (.iushr, 1) := by decide +kernel
theorem dJ6_bitCount_0f7a4_18 : decode cJ6_bitCount_0f7a4 18 = .ok (.ldc_w 266, 3) := by decide +kernel
theorem dJ6_bitCount_0f7a4_21 : decode cJ6_bitCount_0f7a4 21 = .ok (.iand, 1) := by decide +kernel
theorem dJ6_bitCount_0f7a4_22 : decode cJ6_bitCount_0f7a4 22 = .ok (.iadd, 1) := by decide +kernel
theorem dJ6_bitCount_0f7a4_23 : decode cJ6_bitCount_0f7a4 23 = .ok (.istore_n 0, 1) := by decide +kernel
theorem dJ6_bitCount_0f7a4_24 : decode cJ6_bitCount_0f7a4 24 = .ok (.iload_n 0, 1) := by decide +kernel
theorem dJ6_bitCount_0f7a4_25 : decode cJ6_bitCount_0f7a4 25 = .ok (.iload_n 0, 1) := by decide +kernel
theorem dJ6_bitCount_0f7a4_26 : decode cJ6_bitCount_0f7a4 26 = .ok (.iconst 4, 1) := by decide +kernel
theorem dJ6_bitCount_0f7a4_27 : decode cJ6_bitCount_0f7a4 27 = .ok (.iushr, 1) := by decide +kernel
theorem dJ6_bitCount_0f7a4_28 : decode cJ6_bitCount_0f7a4 28 = .ok (.iadd, 1) := by decide +kernel
theorem dJ6_bitCount_0f7a4_29 : decode cJ6_bitCount_0f7a4 29 = .ok (.ldc_w 267, 3) := by decide +kernel
theorem dJ6_bitCount_0f7a4_32 : decode cJ6_bitCount_0f7a4 32 = .ok (.iand, 1) := by decide +kernel
theorem dJ6_bitCount_0f7a4_33 : decode cJ6_bitCount_0f7a4 33 = .ok (.istore_n 0, 1) := by decide +kernel
theorem dJ6_bitCount_0f7a4_34 : decode cJ6_bitCount_0f7a4 34 = .ok (.iload_n 0, 1) := by decide +kernel
theorem dJ6_bitCount_0f7a4_35 : decode cJ6_bitCount_0f7a4 35 = .ok (.iload_n 0, 1) := by decide +kernel
theorem dJ6_bitCount_0f7a4_36 : decode cJ6_bitCount_0f7a4 36 = .ok (.bipush 8, 2) := by decide +kernel
theorem dJ6_bitCount_0f7a4_38 : decode cJ6_bitCount_0f7a4 38 = .ok (.iushr, 1) := by decide +kernel
theorem dJ6_bitCount_0f7a4_39 : decode cJ6_bitCount_0f7a4 39 = .ok (.iadd, 1) := by decide +kernel
theorem dJ6_bitCount_0f7a4_40 : decode cJ6_bitCount_0f7a4 40 = .ok (.istore_n 0, 1) := by decide +kernel
theorem dJ6_bitCount_0f7a4_41 : decode cJ6_bitCount_0f7a4 41 = .ok (.iload_n 0, 1) := by decide +kernel
theorem dJ6_bitCount_0f7a4_42 : decode cJ6_bitCount_0f7a4 42 = .ok (.iload_n 0, 1) := by decide +kernel
theorem dJ6_bitCount_0f7a4_43 : decode cJ6_bitCount_0f7a4 43 = .ok (.bipush 16, 2) := by decide +kernel
theorem dJ6_bitCount_0f7a4_45 : decode cJ6_bitCount_0f7a4 45 = .ok (.iushr, 1) := by decide +kernel
theorem dJ6_bitCount_0f7a4_46 : decode cJ6_bitCount_0f7a4 46 = .ok (.iadd, 1) := by decide +kernel
theorem dJ6_bitCount_0f7a4_47 : decode cJ6_bitCount_0f7a4 47 = .ok (.istore_n 0, 1) := by decide +kernel
theorem dJ6_bitCount_0f7a4_48 : decode cJ6_bitCount_0f7a4 48 = .ok (.iload_n 0, 1) := by decide +kernel
theorem dJ6_bitCount_0f7a4_49 : decode cJ6_bitCount_0f7a4 49 = .ok (.bipush 63, 2) := by decide +kernel
theorem dJ6_bitCount_0f7a4_51 : decode cJ6_bitCount_0f7a4 51 = .ok (.iand, 1) := by decide +kernel
theorem dJ6_bitCount_0f7a4_52 : decode cJ6_bitCount_0f7a4 52 = .ok (.ireturn, 1) := by decide +kernel
theorem dJ13_bitCount_95d88_0 : decode cJ13_bitCount_95d88 0 = .ok (.lload_n 0, 1) := by decide +kernel
theorem dJ13_bitCount_95d88_1 : decode cJ13_bitCount_95d88 1 = .ok (.lload_n 0, 1) := by decide +kernel
theorem dJ13_bitCount_95d88_2 : decode cJ13_bitCount_95d88 2 = .ok (.iconst 1, 1) := by decide +kernel
theorem dJ13_bitCount_95d88_3 : decode cJ13_bitCount_95d88 3 = .ok (.lushr, 1) := by decide +kernel
theorem dJ13_bitCount_95d88_4 : decode cJ13_bitCount_95d88 4 = .ok (.ldc2_w 314, 3) := by decide +kernel
theorem dJ13_bitCount_95d88_7 : decode cJ13_bitCount_95d88 7 = .ok (.land, 1) := by decide +kernel
theorem dJ13_bitCount_95d88_8 : decode cJ13_bitCount_95d88 8 = .ok (.lsub, 1) := by decide +kernel
theorem dJ13_bitCount_95d88_9 : decode cJ13_bitCount_95d88 9 = .ok (.lstore_n 0, 1) := by decide +kernel
theorem dJ13_bitCount_95d88_10 : decode cJ13_bitCount_95d88 10 = .ok (.lload_n 0, 1) := by decide +kernel
theorem dJ13_bitCount_95d88_11 : decode cJ13_bitCount_95d88 11 = .ok (.ldc2_w 316, 3) := by decide +kernel
theorem dJ13_bitCount_95d88_14 : decode cJ13_bitCount_95d88 14 = .ok (.land, 1) := by decide +kernel
theorem dJ13_bitCount_95d88_15 : decode cJ13_bitCount_95d88 15 = .ok (.lload_n 0, 1) := by decide +kernel
theorem dJ13_bitCount_95d88_16 : decode cJ13_bitCount_95d88 16 = .ok (.iconst 2, 1) := by decide +kernel
theorem dJ13_bitCount_95d88_17 : decode cJ13_bitCount_95d88 17 = .ok (.lushr, 1) := by decide +kernel
theorem dJ13_bitCount_95d88_18 : decode cJ13_bitCount_95d88 18 = .ok (.ldc2_w 316, 3) := by decide +kernel
theorem dJ13_bitCount_95d88_21 : decode cJ13_bitCount_95d88 21 = .ok (.land, 1) := by decide +kernel
theorem dJ13_bitCount_95d88_22 : decode cJ13_bitCount_95d88 22 = .ok (.ladd, 1) := by decide +kernel
theorem dJ13_bitCount_95d88_23 : decode cJ13_bitCount_95d88 23 = .ok (.lstore_n 0, 1) := by decide +kernel
theorem dJ13_bitCount_95d88_24 : decode cJ13_bitCount_95d88 24 = .ok (.lload_n 0, 1) := by decide +kernel
theorem dJ13_bitCount_95d88_25 : decode cJ13_bitCount_95d88 25 = .ok (.lload_n 0, 1) := by decide +kernel
theorem dJ13_bitCount_95d88_26 : decode cJ13_bitCount_95d88 26 = .ok (.iconst 4, 1) := by decide +kernel
theorem dJ13_bitCount_95d88_27 : decode cJ13_bitCount_95d88 27 = .ok (.lushr, 1) := by decide +kernel
theorem dJ13_bitCount_95d88_28 : decode cJ13_bitCount_95d88 28 = .ok (.ladd, 1) := by decide +kernel
theorem dJ13_bitCount_95d88_29 : decode cJ13_bitCount_95d88 29 = .ok (.ldc2_w 318, 3) := by decide +kernel
theorem dJ13_bitCount_95d88_32 : decode cJ13_bitCount_95d88 32 = .ok (.land, 1) := by decide +kernel
theorem dJ13_bitCount_95d88_33 : decode cJ13_bitCount_95d88 33 = .ok (.lstore_n 0, 1) := by decide +kernel
theorem dJ13_bitCount_95d88_34 : decode cJ13_bitCount_95d88 34 = .ok (.lload_n 0, 1) := by decide +kernel
theorem dJ13_bitCount_95d88_35 : decode cJ13_bitCount_95d88 35 = .ok (.lload_n 0, 1) := by decide +kernel
theorem dJ13_bitCount_95d88_36 : decode cJ13_bitCount_95d88 36 = .ok (.bipush 8, 2) := by decide +kernel
theorem dJ13_bitCount_95d88_38 : decode cJ13_bitCount_95d88 38 = .ok (.lushr, 1) := by decide +kernel
theorem dJ13_bitCount_95d88_39 : decode cJ13_bitCount_95d88 39 = .ok (.ladd, 1) := by decide +kernel
theorem dJ13_bitCount_95d88_40 : decode cJ13_bitCount_95d88 40 = .ok (.lstore_n 0, 1) := by decide +kernel
theorem dJ13_bitCount_95d88_41 : decode cJ13_bitCount_95d88 41 = .ok (.lload_n 0, 1) := by decide +kernel
theorem dJ13_bitCount_95d88_42 : decode cJ13_bitCount_95d88 42 = .ok (.lload_n 0, 1) := by decide +kernel
theorem dJ13_bitCount_95d88_43 : decode cJ13_bitCount_95d88 43 = .ok (.bipush 16, 2) := by decide +kernel
theorem dJ13_bitCount_95d88_45 : decode cJ13_bitCount_95d88 45 = .ok (.lushr, 1) := by decide +kernel
theorem dJ13_bitCount_95d88_46 : decode cJ13_bitCount_95d88 46 = .ok (.ladd, 1) := by decide +kernel
theorem dJ13_bitCount_95d88_47 : decode cJ13_bitCount_95d88 47 = .ok (.lstore_n 0, 1) := by decide +kernel
theorem dJ13_bitCount_95d88_48 : decode cJ13_bitCount_95d88 48 = .ok (.lload_n 0, 1) := by decide +kernel
theorem dJ13_bitCount_95d88_49 : decode cJ13_bitCount_95d88 49 = .ok (.lload_n 0, 1) := by decide +kernel
theorem dJ13_bitCount_95d88_50 : decode cJ13_bitCount_95d88 50 = .ok (.bipush 32, 2) := by decide +kernel
theorem dJ13_bitCount_95d88_52 : decode cJ13_bitCount_95d88 52 = .ok (.lushr, 1) := by decide +kernel
theorem dJ13_bitCount_95d88_53 : decode cJ13_bitCount_95d88 53 = .ok (.ladd, 1) := by decide +kernel
theorem dJ13_bitCount_95d88_54 : decode cJ13_bitCount_95d88 54 = .ok (.lstore_n 0, 1) := by decide +kernel
theorem dJ13_bitCount_95d88_55 : decode cJ13_bitCount_95d88 55 = .ok (.lload_n 0, 1) := by decide +kernel
theorem dJ13_bitCount_95d88_56 : decode cJ13_bitCount_95d88 56 = .ok (.l2i, 1) := by decide +kernel
theorem dJ13_bitCount_95d88_57 : decode cJ13_bitCount_95d88 57 = .ok (.bipush 127, 2) := by decide +kernel
theorem dJ13_bitCount_95d88_59 : decode cJ13_bitCount_95d88 59 = .ok (.iand, 1) := by decide +kernel
theorem dJ13_bitCount_95d88_60 : decode cJ13_bitCount_95d88 60 = .ok (.ireturn, 1) := by decide +kernel
theorem dJ9_max_7cf53_0 : decode cJ9_max_7cf53 0 = .ok (.iload_n 0, 1) := by decide +kernel
theorem dJ9_max_7cf53_1 : decode cJ9_max_7cf53 1 = .ok (.iload_n 1, 1) := by decide +kernel
theorem dJ9_max_7cf53_2 : decode cJ9_max_7cf53 2 = .ok (.if_icmp .lt 7, 3) := by decide +kernel
theorem dJ9_max_7cf53_5 : decode cJ9_max_7cf53 5 = .ok (.iload_n 0, 1) := by decide +kernel
theorem dJ9_max_7cf53_6 : decode cJ9_max_7cf53 6 = .ok (.goto 4, 3) := by decide +kernel
theorem dJ9_max_7cf53_9 : decode cJ9_max_7cf53 9 = .ok (.iload_n 1, 1) := by decide +kernel
theorem dJ9_max_7cf53_10 : decode cJ9_max_7cf53 10 = .ok (.ireturn, 1) := by decide +kernel
theorem dJ9_min_7cf53_0 : decode cJ9_min_7cf53 0 = .ok (.iload_n 0, 1) := by decide +kernel
theorem dJ9_min_7cf53_1 : decode cJ9_min_7cf53 1 = .ok (.iload_n 1, 1) := by decide +kernel
theorem dJ9_min_7cf53_2 : decode cJ9_min_7cf53 2 = .ok (.if_icmp .gt 7, 3) := by decide +kernel
theorem dJ9_min_7cf53_5 : decode cJ9_min_7cf53 5 = .ok (.iload_n 0, 1) := by decide +kernel
theorem dJ9_min_7cf53_6 : decode cJ9_min_7cf53 6 = .ok (.goto 4, 3) := by decide +kernel
theorem dJ9_min_7cf53_9 : decode cJ9_min_7cf53 9 = .ok (.iload_n 1, 1) := by decide +kernel
theorem dJ9_min_7cf53_10 : decode cJ9_min_7cf53 10 = .ok (.ireturn, 1) := by decide +kernel
