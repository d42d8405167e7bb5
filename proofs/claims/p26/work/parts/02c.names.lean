theorem dX6_rank_9 : decode cX6_rank 9 = .ok (.if_icmp .ge 26, 3) := by decide +kernel
theorem dX6_rank_12 : decode cX6_rank 12 = .ok (.iload_n 3, 1) := by decide +kernel
theorem dX6_rank_13 : decode cX6_rank 13 = .ok (.iload_n 1, 1) := by decide +kernel
theorem dX6_rank_14 : decode cX6_rank 14 = .ok (.if_icmp .eq 15, 3) := by decide +kernel
theorem dX6_rank_17 : decode cX6_rank 17 = .ok (.aload_n 0, 1) := by decide +kernel
theorem dX6_rank_18 : decode cX6_rank 18 = .ok (.iload_n 3, 1) := by decide +kernel
theorem dX6_rank_19 : decode cX6_rank 19 = .ok (.iload_n 1, 1) := by decide +kernel
theorem dX6_rank_20 : decode cX6_rank 20 = .ok (.invokestatic 15, 3) := by decide +kernel
theorem dX6_rank_23 : decode cX6_rank 23 = .ok (.ifCond .eq 6, 3) := by decide +kernel
theorem dX6_rank_26 : decode cX6_rank 26 = .ok (.iinc 2 1, 3) := by decide +kernel
theorem dX6_rank_29 : decode cX6_rank 29 = .ok (.iinc 3 1, 3) := by decide +kernel
theorem dX6_rank_32 : decode cX6_rank 32 = .ok (.goto (-28), 3) := by decide +kernel
theorem dX6_rank_35 : decode cX6_rank 35 = .ok (.iload_n 2, 1) := by decide +kernel
theorem dX6_rank_36 : decode cX6_rank 36 = .ok (.ireturn, 1) := by decide +kernel
set_option maxRecDepth 20000 in
theorem ggX6_placeOf_X8_length : GoodIn wsX6_placeOf wsX8_length := goodIn_r _ [5, 6, 28, 29] (by decide +kernel) (by decide +kernel)
set_option maxRecDepth 20000 in
theorem gX6_placeOf_X8_length : GoodIn wsX6_placeOf (wsV RX6 9 RX8 yX8_length wsX8_length) := goodIn_app (goodIn_of _ (by decide +kernel)) ggX6_placeOf_X8_length
set_option maxRecDepth 20000 in
theorem ggX6_placeOf_X6_rank : GoodIn wsX6_placeOf wsX6_rank := goodIn_r _ [10, 1, 2, 3, 4, 5, 6, 11, 12, 9, 13, 14, 15, 16, 17, 18, 19, 20, 21, 22, 23, 24, 25, 26, 27, 28, 29] (by decide +kernel) (by decide +kernel)
set_option maxRecDepth 20000 in
theorem gX6_placeOf_X6_rank : GoodIn wsX6_placeOf (va_wsS RX6 21 yX6_rank wsX6_rank) := goodIn_app (goodIn_of _ (by decide +kernel)) ggX6_placeOf_X6_rank
theorem dX6_placeOf_0 : decode cX6_placeOf 0 = .ok (.iconst 0, 1) := by decide +kernel
theorem dX6_placeOf_1 : decode cX6_placeOf 1 = .ok (.istore_n 2, 1) := by decide +kernel
theorem dX6_placeOf_2 : decode cX6_placeOf 2 = .ok (.iload_n 2, 1) := by decide +kernel
theorem dX6_placeOf_3 : decode cX6_placeOf 3 = .ok (.aload_n 0, 1) := by decide +kernel
theorem dX6_placeOf_4 : decode cX6_placeOf 4 = .ok (.invokevirtual 9, 3) := by decide +kernel
theorem dX6_placeOf_7 : decode cX6_placeOf 7 = .ok (.if_icmp .ge 20, 3) := by decide +kernel
theorem dX6_placeOf_10 : decode cX6_placeOf 10 = .ok (.aload_n 0, 1) := by decide +kernel
theorem dX6_placeOf_11 : decode cX6_placeOf 11 = .ok (.iload_n 2, 1) := by decide +kernel
theorem dX6_placeOf_12 : decode cX6_placeOf 12 = .ok (.invokestatic 21, 3) := by decide +kernel
theorem dX6_placeOf_15 : decode cX6_placeOf 15 = .ok (.iload_n 1, 1) := by decide +kernel
theorem dX6_placeOf_16 : decode cX6_placeOf 16 = .ok (.if_icmp .ne 5, 3) := by decide +kernel
theorem dX6_placeOf_19 : decode cX6_placeOf 19 = .ok (.iload_n 2, 1) := by decide +kernel
theorem dX6_placeOf_20 : decode cX6_placeOf 20 = .ok (.ireturn, 1) := by decide +kernel
theorem dX6_placeOf_21 : decode cX6_placeOf 21 = .ok (.iinc 2 1, 3) := by decide +kernel
theorem dX6_placeOf_24 : decode cX6_placeOf 24 = .ok (.goto (-22), 3) := by decide +kernel
theorem dX6_placeOf_27 : decode cX6_placeOf 27 = .ok (.bipush (-4), 2) := by decide +kernel
theorem dX6_placeOf_29 : decode cX6_placeOf 29 = .ok (.ireturn, 1) := by decide +kernel
set_option maxRecDepth 20000 in
theorem ggX6_isAhead_X8_alikeFrom : GoodIn wsX6_isAhead wsX8_alikeFrom := goodIn_r _ [5, 6, 7, 8, 9, 10, 11, 12, 13, 4, 14, 15, 17, 18] (by decide +kernel) (by decide +kernel)
set_option maxRecDepth 20000 in
theorem gX6_isAhead_X8_alikeFrom : GoodIn wsX6_isAhead (wsV RX6 25 RX8 yX8_alikeFrom wsX8_alikeFrom) := goodIn_app (goodIn_of _ (by decide +kernel)) ggX6_isAhead_X8_alikeFrom
set_option maxRecDepth 20000 in
theorem ggX6_isAhead_X8_letterAt : GoodIn wsX6_isAhead wsX8_letterAt := goodIn_r _ [14, 6, 15, 17, 18] (by decide +kernel) (by decide +kernel)
set_option maxRecDepth 20000 in
theorem gX6_isAhead_X8_letterAt : GoodIn wsX6_isAhead (wsV RX6 29 RX8 yX8_letterAt wsX8_letterAt) := goodIn_app (goodIn_of _ (by decide +kernel)) ggX6_isAhead_X8_letterAt
theorem dX6_isAhead_0 : decode cX6_isAhead 0 = .ok (.aload_n 0, 1) := by decide +kernel
theorem dX6_isAhead_1 : decode cX6_isAhead 1 = .ok (.iload_n 1, 1) := by decide +kernel
theorem dX6_isAhead_2 : decode cX6_isAhead 2 = .ok (.iload_n 2, 1) := by decide +kernel
theorem dX6_isAhead_3 : decode cX6_isAhead 3 = .ok (.invokevirtual 25, 3) := by decide +kernel
theorem dX6_isAhead_6 : decode cX6_isAhead 6 = .ok (.istore_n 3, 1) := by decide +kernel
theorem dX6_isAhead_7 : decode cX6_isAhead 7 = .ok (.aload_n 0, 1) := by decide +kernel
theorem dX6_isAhead_8 : decode cX6_isAhead 8 = .ok (.iload_n 1, 1) := by decide +kernel
theorem dX6_isAhead_9 : decode cX6_isAhead 9 = .ok (.iload_n 3, 1) := by decide +kernel
theorem dX6_isAhead_10 : decode cX6_isAhead 10 = .ok (.iadd, 1) := by decide +kernel
theorem dX6_isAhead_11 : decode cX6_isAhead 11 = .ok (.invokevirtual 29, 3) := by decide +kernel
theorem dX6_isAhead_14 : decode cX6_isAhead 14 = .ok (.aload_n 0, 1) := by decide +kernel
theorem dX6_isAhead_15 : decode cX6_isAhead 15 = .ok (.iload_n 2, 1) := by decide +kernel
theorem dX6_isAhead_16 : decode cX6_isAhead 16 = .ok (.iload_n 3, 1) := by decide +kernel
theorem dX6_isAhead_17 : decode cX6_isAhead 17 = .ok (.iadd, 1) := by decide +kernel
theorem dX6_isAhead_18 : decode cX6_isAhead 18 = .ok (.invokevirtual 29, 3) := by decide +kernel
theorem dX6_isAhead_21 : decode cX6_isAhead 21 = .ok (.if_icmp .ge 7, 3) := by decide +kernel
theorem dX6_isAhead_24 : decode cX6_isAhead 24 = .ok (.iconst 1, 1) := by decide +kernel
theorem dX6_isAhead_25 : decode cX6_isAhead 25 = .ok (.goto 4, 3) := by decide +kernel
theorem dX6_isAhead_28 : decode cX6_isAhead 28 = .ok (.iconst 0, 1) := by decide +kernel
theorem dX6_isAhead_29 : decode cX6_isAhead 29 = .ok (.ireturn, 1) := by decide +kernel
theorem dX7_init_0 : decode cX7_init 0 = .ok (.aload_n 0, 1) := by decide +kernel
theorem dX7_init_1 : decode cX7_init 1 = .ok (.invokespecial 3, 3) := by decide +kernel
theorem dX7_init_4 : decode cX7_init 4 = .ok (.aload_n 0, 1) := by decide +kernel
theorem dX7_init_5 : decode cX7_init 5 = .ok (.bipush 60, 2) := by decide +kernel
theorem dX7_init_7 : decode cX7_init 7 = .ok (.newarray .char, 2) := by decide +kernel
theorem dX7_init_9 : decode cX7_init 9 = .ok (.putfield 9, 3) := by decide +kernel
theorem dX7_init_12 : decode cX7_init 12 = .ok (.aload_n 0, 1) := by decide +kernel
theorem dX7_init_13 : decode cX7_init 13 = .ok (.iconst 0, 1) := by decide +kernel
theorem dX7_init_14 : decode cX7_init 14 = .ok (.putfield 15, 3) := by decide +kernel
theorem dX7_init_17 : decode cX7_init 17 = .ok (.return_, 1) := by decide +kernel
theorem dX7_length_0 : decode cX7_length 0 = .ok (.aload_n 0, 1) := by decide +kernel
theorem dX7_length_1 : decode cX7_length 1 = .ok (.getfield 15, 3) := by decide +kernel
theorem dX7_length_4 : decode cX7_length 4 = .ok (.ireturn, 1) := by decide +kernel
theorem dX7_characterAt_0 : decode cX7_characterAt 0 = .ok (.iload_n 1, 1) := by decide +kernel
theorem dX7_characterAt_1 : decode cX7_characterAt 1 = .ok (.ifCond .lt 29, 3) := by decide +kernel
theorem dX7_characterAt_4 : decode cX7_characterAt 4 = .ok (.iload_n 1, 1) := by decide +kernel
theorem dX7_characterAt_5 : decode cX7_characterAt 5 = .ok (.aload_n 0, 1) := by decide +kernel
theorem dX7_characterAt_6 : decode cX7_characterAt 6 = .ok (.getfield 15, 3) := by decide +kernel
theorem dX7_characterAt_9 : decode cX7_characterAt 9 = .ok (.if_icmp .ge 21, 3) := by decide +kernel
theorem dX7_characterAt_12 : decode cX7_characterAt 12 = .ok (.iload_n 1, 1) := by decide +kernel
theorem dX7_characterAt_13 : decode cX7_characterAt 13 = .ok (.aload_n 0, 1) := by decide +kernel
theorem dX7_characterAt_14 : decode cX7_characterAt 14 = .ok (.getfield 9, 3) := by decide +kernel
theorem dX7_characterAt_17 : decode cX7_characterAt 17 = .ok (.arraylength, 1) := by decide +kernel
theorem dX7_characterAt_18 : decode cX7_characterAt 18 = .ok (.if_icmp .ge 12, 3) := by decide +kernel
theorem dX7_characterAt_21 : decode cX7_characterAt 21 = .ok (.aload_n 0, 1) := by decide +kernel
theorem dX7_characterAt_22 : decode cX7_characterAt 22 = .ok (.getfield 9, 3) := by decide +kernel
theorem dX7_characterAt_25 : decode cX7_characterAt 25 = .ok (.iload_n 1, 1) := by decide +kernel
theorem dX7_characterAt_26 : decode cX7_characterAt 26 = .ok (.caload, 1) := by decide +kernel
theorem dX7_characterAt_27 : decode cX7_characterAt 27 = .ok (.goto 5, 3) := by decide +kernel
theorem dX7_characterAt_30 : decode cX7_characterAt 30 = .ok (.bipush 32, 2) := by decide +kernel
theorem dX7_characterAt_32 : decode cX7_characterAt 32 = .ok (.ireturn, 1) := by decide +kernel
theorem dX8_init_0 : decode cX8_init 0 = .ok (.aload_n 0, 1) := by decide +kernel
theorem dX8_init_1 : decode cX8_init 1 = .ok (.invokespecial 3, 3) := by decide +kernel
theorem dX8_init_4 : decode cX8_init 4 = .ok (.aload_n 0, 1) := by decide +kernel
theorem dX8_init_5 : decode cX8_init 5 = .ok (.bipush 40, 2) := by decide +kernel
theorem dX8_init_7 : decode cX8_init 7 = .ok (.newarray .int, 2) := by decide +kernel
theorem dX8_init_9 : decode cX8_init 9 = .ok (.putfield 9, 3) := by decide +kernel
theorem dX8_init_12 : decode cX8_init 12 = .ok (.aload_n 0, 1) := by decide +kernel
theorem dX8_init_13 : decode cX8_init 13 = .ok (.iconst 0, 1) := by decide +kernel
theorem dX8_init_14 : decode cX8_init 14 = .ok (.putfield 15, 3) := by decide +kernel
theorem dX8_init_17 : decode cX8_init 17 = .ok (.return_, 1) := by decide +kernel
theorem dX8_length_0 : decode cX8_length 0 = .ok (.aload_n 0, 1) := by decide +kernel
theorem dX8_length_1 : decode cX8_length 1 = .ok (.getfield 15, 3) := by decide +kernel
theorem dX8_length_4 : decode cX8_length 4 = .ok (.ireturn, 1) := by decide +kernel
theorem dX8_isFull_0 : decode cX8_isFull 0 = .ok (.aload_n 0, 1) := by decide +kernel
theorem dX8_isFull_1 : decode cX8_isFull 1 = .ok (.getfield 15, 3) := by decide +kernel
theorem dX8_isFull_4 : decode cX8_isFull 4 = .ok (.bipush 40, 2) := by decide +kernel
theorem dX8_isFull_6 : decode cX8_isFull 6 = .ok (.if_icmp .lt 7, 3) := by decide +kernel
theorem dX8_isFull_9 : decode cX8_isFull 9 = .ok (.iconst 1, 1) := by decide +kernel
theorem dX8_isFull_10 : decode cX8_isFull 10 = .ok (.goto 4, 3) := by decide +kernel
theorem dX8_isFull_13 : decode cX8_isFull 13 = .ok (.iconst 0, 1) := by decide +kernel
theorem dX8_isFull_14 : decode cX8_isFull 14 = .ok (.ireturn, 1) := by decide +kernel
theorem dX8_isPlace_0 : decode cX8_isPlace 0 = .ok (.iload_n 1, 1) := by decide +kernel
theorem dX8_isPlace_1 : decode cX8_isPlace 1 = .ok (.ifCond .lt 15, 3) := by decide +kernel
theorem dX8_isPlace_4 : decode cX8_isPlace 4 = .ok (.iload_n 1, 1) := by decide +kernel
theorem dX8_isPlace_5 : decode cX8_isPlace 5 = .ok (.aload_n 0, 1) := by decide +kernel
theorem dX8_isPlace_6 : decode cX8_isPlace 6 = .ok (.getfield 15, 3) := by decide +kernel
theorem dX8_isPlace_9 : decode cX8_isPlace 9 = .ok (.if_icmp .ge 7, 3) := by decide +kernel
theorem dX8_isPlace_12 : decode cX8_isPlace 12 = .ok (.iconst 1, 1) := by decide +kernel
theorem dX8_isPlace_13 : decode cX8_isPlace 13 = .ok (.goto 4, 3) := by decide +kernel
theorem dX8_isPlace_16 : decode cX8_isPlace 16 = .ok (.iconst 0, 1) := by decide +kernel
theorem dX8_isPlace_17 : decode cX8_isPlace 17 = .ok (.ireturn, 1) := by decide +kernel
theorem dX8_isFactor_0 : decode cX8_isFactor 0 = .ok (.iload_n 1, 1) := by decide +kernel
theorem dX8_isFactor_1 : decode cX8_isFactor 1 = .ok (.ifCond .lt 20, 3) := by decide +kernel
theorem dX8_isFactor_4 : decode cX8_isFactor 4 = .ok (.iload_n 1, 1) := by decide +kernel
theorem dX8_isFactor_5 : decode cX8_isFactor 5 = .ok (.iload_n 2, 1) := by decide +kernel
theorem dX8_isFactor_6 : decode cX8_isFactor 6 = .ok (.if_icmp .ge 15, 3) := by decide +kernel
theorem dX8_isFactor_9 : decode cX8_isFactor 9 = .ok (.iload_n 2, 1) := by decide +kernel
theorem dX8_isFactor_10 : decode cX8_isFactor 10 = .ok (.aload_n 0, 1) := by decide +kernel
theorem dX8_isFactor_11 : decode cX8_isFactor 11 = .ok (.getfield 15, 3) := by decide +kernel
theorem dX8_isFactor_14 : decode cX8_isFactor 14 = .ok (.if_icmp .gt 7, 3) := by decide +kernel
theorem dX8_isFactor_17 : decode cX8_isFactor 17 = .ok (.iconst 1, 1) := by decide +kernel
theorem dX8_isFactor_18 : decode cX8_isFactor 18 = .ok (.goto 4, 3) := by decide +kernel
theorem dX8_isFactor_21 : decode cX8_isFactor 21 = .ok (.iconst 0, 1) := by decide +kernel
theorem dX8_isFactor_22 : decode cX8_isFactor 22 = .ok (.ireturn, 1) := by decide +kernel
theorem dX8_letterAt_0 : decode cX8_letterAt 0 = .ok (.iload_n 1, 1) := by decide +kernel
theorem dX8_letterAt_1 : decode cX8_letterAt 1 = .ok (.ifCond .lt 20, 3) := by decide +kernel
theorem dX8_letterAt_4 : decode cX8_letterAt 4 = .ok (.iload_n 1, 1) := by decide +kernel
theorem dX8_letterAt_5 : decode cX8_letterAt 5 = .ok (.aload_n 0, 1) := by decide +kernel
theorem dX8_letterAt_6 : decode cX8_letterAt 6 = .ok (.getfield 15, 3) := by decide +kernel
theorem dX8_letterAt_9 : decode cX8_letterAt 9 = .ok (.if_icmp .ge 12, 3) := by decide +kernel
theorem dX8_letterAt_12 : decode cX8_letterAt 12 = .ok (.iload_n 1, 1) := by decide +kernel
theorem dX8_letterAt_13 : decode cX8_letterAt 13 = .ok (.aload_n 0, 1) := by decide +kernel
theorem dX8_letterAt_14 : decode cX8_letterAt 14 = .ok (.getfield 9, 3) := by decide +kernel
theorem dX8_letterAt_17 : decode cX8_letterAt 17 = .ok (.arraylength, 1) := by decide +kernel
theorem dX8_letterAt_18 : decode cX8_letterAt 18 = .ok (.if_icmp .lt 5, 3) := by decide +kernel
theorem dX8_letterAt_21 : decode cX8_letterAt 21 = .ok (.iconst (-1), 1) := by decide +kernel
theorem dX8_letterAt_22 : decode cX8_letterAt 22 = .ok (.ireturn, 1) := by decide +kernel
theorem dX8_letterAt_23 : decode cX8_letterAt 23 = .ok (.aload_n 0, 1) := by decide +kernel
theorem dX8_letterAt_24 : decode cX8_letterAt 24 = .ok (.getfield 9, 3) := by decide +kernel
theorem dX8_letterAt_27 : decode cX8_letterAt 27 = .ok (.iload_n 1, 1) := by decide +kernel
theorem dX8_letterAt_28 : decode cX8_letterAt 28 = .ok (.iaload, 1) := by decide +kernel
theorem dX8_letterAt_29 : decode cX8_letterAt 29 = .ok (.ireturn, 1) := by decide +kernel
theorem dX8_clear_0 : decode cX8_clear 0 = .ok (.aload_n 0, 1) := by decide +kernel
theorem dX8_clear_1 : decode cX8_clear 1 = .ok (.iconst 0, 1) := by decide +kernel
theorem dX8_clear_2 : decode cX8_clear 2 = .ok (.putfield 15, 3) := by decide +kernel
theorem dX8_clear_5 : decode cX8_clear 5 = .ok (.return_, 1) := by decide +kernel
theorem dX8_append_0 : decode cX8_append 0 = .ok (.aload_n 0, 1) := by decide +kernel
theorem dX8_append_1 : decode cX8_append 1 = .ok (.getfield 15, 3) := by decide +kernel
theorem dX8_append_4 : decode cX8_append 4 = .ok (.ifCond .lt 35, 3) := by decide +kernel
theorem dX8_append_7 : decode cX8_append 7 = .ok (.aload_n 0, 1) := by decide +kernel
theorem dX8_append_8 : decode cX8_append 8 = .ok (.getfield 15, 3) := by decide +kernel
theorem dX8_append_11 : decode cX8_append 11 = .ok (.aload_n 0, 1) := by decide +kernel
theorem dX8_append_12 : decode cX8_append 12 = .ok (.getfield 9, 3) := by decide +kernel
theorem dX8_append_15 : decode cX8_append 15 = .ok (.arraylength, 1) := by decide +kernel
theorem dX8_append_16 : decode cX8_append 16 = .ok (.if_icmp .ge 23, 3) := by decide +kernel
theorem dX8_append_19 : decode cX8_append 19 = .ok (.aload_n 0, 1) := by decide +kernel
theorem dX8_append_20 : decode cX8_append 20 = .ok (.getfield 9, 3) := by decide +kernel
theorem dX8_append_23 : decode cX8_append 23 = .ok (.aload_n 0, 1) := by decide +kernel
theorem dX8_append_24 : decode cX8_append 24 = .ok (.getfield 15, 3) := by decide +kernel
theorem dX8_append_27 : decode cX8_append 27 = .ok (.iload_n 1, 1) := by decide +kernel
theorem dX8_append_28 : decode cX8_append 28 = .ok (.iastore, 1) := by decide +kernel
theorem dX8_append_29 : decode cX8_append 29 = .ok (.aload_n 0, 1) := by decide +kernel
theorem dX8_append_30 : decode cX8_append 30 = .ok (.dup, 1) := by decide +kernel
theorem dX8_append_31 : decode cX8_append 31 = .ok (.getfield 15, 3) := by decide +kernel
theorem dX8_append_34 : decode cX8_append 34 = .ok (.iconst 1, 1) := by decide +kernel
theorem dX8_append_35 : decode cX8_append 35 = .ok (.iadd, 1) := by decide +kernel
theorem dX8_append_36 : decode cX8_append 36 = .ok (.putfield 15, 3) := by decide +kernel
theorem dX8_append_39 : decode cX8_append 39 = .ok (.return_, 1) := by decide +kernel
set_option maxRecDepth 20000 in
theorem ggX8_appendFactor_X8_letterAt : GoodIn wsX8_appendFactor wsX8_letterAt := goodIn_r _ [5, 6, 7, 12, 13] (by decide +kernel) (by decide +kernel)
set_option maxRecDepth 20000 in
theorem gX8_appendFactor_X8_letterAt : GoodIn wsX8_appendFactor (wsV RX8 19 RX8 yX8_letterAt wsX8_letterAt) := goodIn_app (goodIn_of _ (by decide +kernel)) ggX8_appendFactor_X8_letterAt
set_option maxRecDepth 20000 in
theorem ggX8_appendFactor_X8_append : GoodIn wsX8_appendFactor wsX8_append := goodIn_r _ [11, 6, 7, 12, 13] (by decide +kernel) (by decide +kernel)
set_option maxRecDepth 20000 in
theorem gX8_appendFactor_X8_append : GoodIn wsX8_appendFactor (wsV RX8 23 RX8 yX8_append wsX8_append) := goodIn_app (goodIn_of _ (by decide +kernel)) ggX8_appendFactor_X8_append
theorem dX8_appendFactor_0 : decode cX8_appendFactor 0 = .ok (.iload_n 2, 1) := by decide +kernel
theorem dX8_appendFactor_1 : decode cX8_appendFactor 1 = .ok (.istore 4, 2) := by decide +kernel
theorem dX8_appendFactor_3 : decode cX8_appendFactor 3 = .ok (.iload 4, 2) := by decide +kernel
theorem dX8_appendFactor_5 : decode cX8_appendFactor 5 = .ok (.iload_n 3, 1) := by decide +kernel
theorem dX8_appendFactor_6 : decode cX8_appendFactor 6 = .ok (.if_icmp .ge 19, 3) := by decide +kernel
theorem dX8_appendFactor_9 : decode cX8_appendFactor 9 = .ok (.aload_n 0, 1) := by decide +kernel
theorem dX8_appendFactor_10 : decode cX8_appendFactor 10 = .ok (.aload_n 1, 1) := by decide +kernel
theorem dX8_appendFactor_11 : decode cX8_appendFactor 11 = .ok (.iload 4, 2) := by decide +kernel
theorem dX8_appendFactor_13 : decode cX8_appendFactor 13 = .ok (.invokevirtual 19, 3) := by decide +kernel
theorem dX8_appendFactor_16 : decode cX8_appendFactor 16 = .ok (.invokevirtual 23, 3) := by decide +kernel
theorem dX8_appendFactor_19 : decode cX8_appendFactor 19 = .ok (.iinc 4 1, 3) := by decide +kernel
theorem dX8_appendFactor_22 : decode cX8_appendFactor 22 = .ok (.goto (-19), 3) := by decide +kernel
theorem dX8_appendFactor_25 : decode cX8_appendFactor 25 = .ok (.return_, 1) := by decide +kernel
set_option maxRecDepth 20000 in
theorem ggX8_copyFrom_X8_clear : GoodIn wsX8_copyFrom wsX8_clear := goodIn_r _ [5, 6, 24, 25] (by decide +kernel) (by decide +kernel)
set_option maxRecDepth 20000 in
theorem gX8_copyFrom_X8_clear : GoodIn wsX8_copyFrom (wsV RX8 27 RX8 yX8_clear wsX8_clear) := goodIn_app (goodIn_of _ (by decide +kernel)) ggX8_copyFrom_X8_clear
set_option maxRecDepth 20000 in
theorem ggX8_copyFrom_X8_length : GoodIn wsX8_copyFrom wsX8_length := goodIn_r _ [10, 6, 24, 25] (by decide +kernel) (by decide +kernel)
set_option maxRecDepth 20000 in
theorem gX8_copyFrom_X8_length : GoodIn wsX8_copyFrom (wsV RX8 30 RX8 yX8_length wsX8_length) := goodIn_app (goodIn_of _ (by decide +kernel)) ggX8_copyFrom_X8_length
set_option maxRecDepth 20000 in
theorem ggX8_copyFrom_X8_appendFactor : GoodIn wsX8_copyFrom wsX8_appendFactor := goodIn_r _ [14, 15, 16, 17, 4, 18, 6, 19, 20, 21, 22, 23, 24, 25] (by decide +kernel) (by decide +kernel)
set_option maxRecDepth 20000 in
theorem gX8_copyFrom_X8_appendFactor : GoodIn wsX8_copyFrom (wsV RX8 33 RX8 yX8_appendFactor wsX8_appendFactor) := goodIn_app (goodIn_of _ (by decide +kernel)) ggX8_copyFrom_X8_appendFactor
theorem dX8_copyFrom_0 : decode cX8_copyFrom 0 = .ok (.aload_n 0, 1) := by decide +kernel
theorem dX8_copyFrom_1 : decode cX8_copyFrom 1 = .ok (.invokevirtual 27, 3) := by decide +kernel
theorem dX8_copyFrom_4 : decode cX8_copyFrom 4 = .ok (.aload_n 0, 1) := by decide +kernel
theorem dX8_copyFrom_5 : decode cX8_copyFrom 5 = .ok (.aload_n 1, 1) := by decide +kernel
theorem dX8_copyFrom_6 : decode cX8_copyFrom 6 = .ok (.iconst 0, 1) := by decide +kernel
theorem dX8_copyFrom_7 : decode cX8_copyFrom 7 = .ok (.aload_n 1, 1) := by decide +kernel
theorem dX8_copyFrom_8 : decode cX8_copyFrom 8 = .ok (.invokevirtual 30, 3) := by decide +kernel
theorem dX8_copyFrom_11 : decode cX8_copyFrom 11 = .ok (.invokevirtual 33, 3) := by decide +kernel
theorem dX8_copyFrom_14 : decode cX8_copyFrom 14 = .ok (.return_, 1) := by decide +kernel
set_option maxRecDepth 20000 in
theorem ggX8_isSameAs_X8_length : GoodIn wsX8_isSameAs wsX8_length := goodIn_r _ [6, 1, 12, 13] (by decide +kernel) (by decide +kernel)
set_option maxRecDepth 20000 in
theorem gX8_isSameAs_X8_length : GoodIn wsX8_isSameAs (wsV RX8 30 RX8 yX8_length wsX8_length) := goodIn_app (goodIn_of _ (by decide +kernel)) ggX8_isSameAs_X8_length
set_option maxRecDepth 20000 in
theorem ggX8_isSameAs_X8_letterAt : GoodIn wsX8_isSameAs wsX8_letterAt := goodIn_r _ [10, 1, 11, 12, 13] (by decide +kernel) (by decide +kernel)
set_option maxRecDepth 20000 in
theorem gX8_isSameAs_X8_letterAt : GoodIn wsX8_isSameAs (wsV RX8 19 RX8 yX8_letterAt wsX8_letterAt) := goodIn_app (goodIn_of _ (by decide +kernel)) ggX8_isSameAs_X8_letterAt
theorem dX8_isSameAs_0 : decode cX8_isSameAs 0 = .ok (.aload_n 0, 1) := by decide +kernel
theorem dX8_isSameAs_1 : decode cX8_isSameAs 1 = .ok (.getfield 15, 3) := by decide +kernel
theorem dX8_isSameAs_4 : decode cX8_isSameAs 4 = .ok (.aload_n 1, 1) := by decide +kernel
theorem dX8_isSameAs_5 : decode cX8_isSameAs 5 = .ok (.invokevirtual 30, 3) := by decide +kernel
theorem dX8_isSameAs_8 : decode cX8_isSameAs 8 = .ok (.if_icmp .eq 5, 3) := by decide +kernel
theorem dX8_isSameAs_11 : decode cX8_isSameAs 11 = .ok (.iconst 0, 1) := by decide +kernel
theorem dX8_isSameAs_12 : decode cX8_isSameAs 12 = .ok (.ireturn, 1) := by decide +kernel
theorem dX8_isSameAs_13 : decode cX8_isSameAs 13 = .ok (.iconst 0, 1) := by decide +kernel
theorem dX8_isSameAs_14 : decode cX8_isSameAs 14 = .ok (.istore_n 2, 1) := by decide +kernel
theorem dX8_isSameAs_15 : decode cX8_isSameAs 15 = .ok (.iload_n 2, 1) := by decide +kernel
theorem dX8_isSameAs_16 : decode cX8_isSameAs 16 = .ok (.aload_n 0, 1) := by decide +kernel
theorem dX8_isSameAs_17 : decode cX8_isSameAs 17 = .ok (.getfield 15, 3) := by decide +kernel
theorem dX8_isSameAs_20 : decode cX8_isSameAs 20 = .ok (.if_icmp .ge 24, 3) := by decide +kernel
theorem dX8_isSameAs_23 : decode cX8_isSameAs 23 = .ok (.aload_n 0, 1) := by decide +kernel
theorem dX8_isSameAs_24 : decode cX8_isSameAs 24 = .ok (.iload_n 2, 1) := by decide +kernel
theorem dX8_isSameAs_25 : decode cX8_isSameAs 25 = .ok (.invokevirtual 19, 3) := by decide +kernel
theorem dX8_isSameAs_28 : decode cX8_isSameAs 28 = .ok (.aload_n 1, 1) := by decide +kernel
theorem dX8_isSameAs_29 : decode cX8_isSameAs 29 = .ok (.iload_n 2, 1) := by decide +kernel
theorem dX8_isSameAs_30 : decode cX8_isSameAs 30 = .ok (.invokevirtual 19, 3) := by decide +kernel
theorem dX8_isSameAs_33 : decode cX8_isSameAs 33 = .ok (.if_icmp .eq 5, 3) := by decide +kernel
theorem dX8_isSameAs_36 : decode cX8_isSameAs 36 = .ok (.iconst 0, 1) := by decide +kernel
theorem dX8_isSameAs_37 : decode cX8_isSameAs 37 = .ok (.ireturn, 1) := by decide +kernel
theorem dX8_isSameAs_38 : decode cX8_isSameAs 38 = .ok (.iinc 2 1, 3) := by decide +kernel
theorem dX8_isSameAs_41 : decode cX8_isSameAs 41 = .ok (.goto (-26), 3) := by decide +kernel
theorem dX8_isSameAs_44 : decode cX8_isSameAs 44 = .ok (.iconst 1, 1) := by decide +kernel
theorem dX8_isSameAs_45 : decode cX8_isSameAs 45 = .ok (.ireturn, 1) := by decide +kernel
set_option maxRecDepth 20000 in
theorem ggX8_unlikeLetters_X8_letterAt : GoodIn wsX8_unlikeLetters wsX8_letterAt := goodIn_r _ [6, 1, 7, 15, 16] (by decide +kernel) (by decide +kernel)
set_option maxRecDepth 20000 in
theorem gX8_unlikeLetters_X8_letterAt : GoodIn wsX8_unlikeLetters (wsV RX8 19 RX8 yX8_letterAt wsX8_letterAt) := goodIn_app (goodIn_of _ (by decide +kernel)) ggX8_unlikeLetters_X8_letterAt
set_option maxRecDepth 20000 in
theorem ggX8_unlikeLetters_J6_bitCount_0f7a4 : GoodIn wsX8_unlikeLetters wsJ6_bitCount_0f7a4 := goodIn_r _ [11, 12, 13, 14] (by decide +kernel) (by decide +kernel)
set_option maxRecDepth 20000 in
theorem gX8_unlikeLetters_J6_bitCount_0f7a4 : GoodIn wsX8_unlikeLetters (va_wsS RX8 37 yJ6_bitCount_0f7a4 wsJ6_bitCount_0f7a4) := goodIn_app (goodIn_of _ (by decide +kernel)) ggX8_unlikeLetters_J6_bitCount_0f7a4
theorem dX8_unlikeLetters_0 : decode cX8_unlikeLetters 0 = .ok (.iconst 0, 1) := by decide +kernel
theorem dX8_unlikeLetters_1 : decode cX8_unlikeLetters 1 = .ok (.istore_n 1, 1) := by decide +kernel
theorem dX8_unlikeLetters_2 : decode cX8_unlikeLetters 2 = .ok (.iconst 0, 1) := by decide +kernel
theorem dX8_unlikeLetters_3 : decode cX8_unlikeLetters 3 = .ok (.istore_n 2, 1) := by decide +kernel
theorem dX8_unlikeLetters_4 : decode cX8_unlikeLetters 4 = .ok (.iload_n 2, 1) := by decide +kernel
theorem dX8_unlikeLetters_5 : decode cX8_unlikeLetters 5 = .ok (.aload_n 0, 1) := by decide +kernel
theorem dX8_unlikeLetters_6 : decode cX8_unlikeLetters 6 = .ok (.getfield 15, 3) := by decide +kernel
theorem dX8_unlikeLetters_9 : decode cX8_unlikeLetters 9 = .ok (.if_icmp .ge 19, 3) := by decide +kernel
theorem dX8_unlikeLetters_12 : decode cX8_unlikeLetters 12 = .ok (.iload_n 1, 1) := by decide +kernel
theorem dX8_unlikeLetters_13 : decode cX8_unlikeLetters 13 = .ok (.iconst 1, 1) := by decide +kernel
theorem dX8_unlikeLetters_14 : decode cX8_unlikeLetters 14 = .ok (.aload_n 0, 1) := by decide +kernel
theorem dX8_unlikeLetters_15 : decode cX8_unlikeLetters 15 = .ok (.iload_n 2, 1) := by decide +kernel
theorem dX8_unlikeLetters_16 : decode cX8_unlikeLetters 16 = .ok (.invokevirtual 19, 3) := by decide +kernel
theorem dX8_unlikeLetters_19 : decode cX8_unlikeLetters 19 = .ok (.ishl, 1) := by decide +kernel
theorem dX8_unlikeLetters_20 : decode cX8_unlikeLetters 20 = .ok (.ior, 1) := by decide +kernel
theorem dX8_unlikeLetters_21 : decode cX8_unlikeLetters 21 = .ok (.istore_n 1, 1) := by decide +kernel
theorem dX8_unlikeLetters_22 : decode cX8_unlikeLetters 22 = .ok (.iinc 2 1, 3) := by decide +kernel
theorem dX8_unlikeLetters_25 : decode cX8_unlikeLetters 25 = .ok (.goto (-21), 3) := by decide +kernel
theorem dX8_unlikeLetters_28 : decode cX8_unlikeLetters 28 = .ok (.iload_n 1, 1) := by decide +kernel
theorem dX8_unlikeLetters_29 : decode cX8_unlikeLetters 29 = .ok (.invokestatic 37, 3) := by decide +kernel
theorem dX8_unlikeLetters_32 : decode cX8_unlikeLetters 32 = .ok (.ireturn, 1) := by decide +kernel
set_option maxRecDepth 20000 in
theorem ggX8_alikeFrom_X8_letterAt : GoodIn wsX8_alikeFrom wsX8_letterAt := goodIn_r _ [10, 1, 11, 12, 13] (by decide +kernel) (by decide +kernel)
set_option maxRecDepth 20000 in
theorem gX8_alikeFrom_X8_letterAt : GoodIn wsX8_alikeFrom (wsV RX8 19 RX8 yX8_letterAt wsX8_letterAt) := goodIn_app (goodIn_of _ (by decide +kernel)) ggX8_alikeFrom_X8_letterAt
theorem dX8_alikeFrom_0 : decode cX8_alikeFrom 0 = .ok (.aload_n 0, 1) := by decide +kernel
theorem dX8_alikeFrom_1 : decode cX8_alikeFrom 1 = .ok (.getfield 15, 3) := by decide +kernel
theorem dX8_alikeFrom_4 : decode cX8_alikeFrom 4 = .ok (.iload_n 1, 1) := by decide +kernel
theorem dX8_alikeFrom_5 : decode cX8_alikeFrom 5 = .ok (.iload_n 2, 1) := by decide +kernel
theorem dX8_alikeFrom_6 : decode cX8_alikeFrom 6 = .ok (.invokestatic 42, 3) := by decide +kernel
theorem dX8_alikeFrom_9 : decode cX8_alikeFrom 9 = .ok (.isub, 1) := by decide +kernel
theorem dX8_alikeFrom_10 : decode cX8_alikeFrom 10 = .ok (.istore_n 3, 1) := by decide +kernel
theorem dX8_alikeFrom_11 : decode cX8_alikeFrom 11 = .ok (.iconst 0, 1) := by decide +kernel
theorem dX8_alikeFrom_12 : decode cX8_alikeFrom 12 = .ok (.istore 4, 2) := by decide +kernel
theorem dX8_alikeFrom_14 : decode cX8_alikeFrom 14 = .ok (.iload 4, 2) := by decide +kernel
theorem dX8_alikeFrom_16 : decode cX8_alikeFrom 16 = .ok (.iload_n 3, 1) := by decide +kernel
theorem dX8_alikeFrom_17 : decode cX8_alikeFrom 17 = .ok (.if_icmp .ge 28, 3) := by decide +kernel
theorem dX8_alikeFrom_20 : decode cX8_alikeFrom 20 = .ok (.aload_n 0, 1) := by decide +kernel
theorem dX8_alikeFrom_21 : decode cX8_alikeFrom 21 = .ok (.iload_n 1, 1) := by decide +kernel
theorem dX8_alikeFrom_22 : decode cX8_alikeFrom 22 = .ok (.iload 4, 2) := by decide +kernel
theorem dX8_alikeFrom_24 : decode cX8_alikeFrom 24 = .ok (.iadd, 1) := by decide +kernel
theorem dX8_alikeFrom_25 : decode cX8_alikeFrom 25 = .ok (.invokevirtual 19, 3) := by decide +kernel
theorem dX8_alikeFrom_28 : decode cX8_alikeFrom 28 = .ok (.aload_n 0, 1) := by decide +kernel
theorem dX8_alikeFrom_29 : decode cX8_alikeFrom 29 = .ok (.iload_n 2, 1) := by decide +kernel
theorem dX8_alikeFrom_30 : decode cX8_alikeFrom 30 = .ok (.iload 4, 2) := by decide +kernel
theorem dX8_alikeFrom_32 : decode cX8_alikeFrom 32 = .ok (.iadd, 1) := by decide +kernel
theorem dX8_alikeFrom_33 : decode cX8_alikeFrom 33 = .ok (.invokevirtual 19, 3) := by decide +kernel
theorem dX8_alikeFrom_36 : decode cX8_alikeFrom 36 = .ok (.if_icmp .ne 9, 3) := by decide +kernel
theorem dX8_alikeFrom_39 : decode cX8_alikeFrom 39 = .ok (.iinc 4 1, 3) := by decide +kernel
theorem dX8_alikeFrom_42 : decode cX8_alikeFrom 42 = .ok (.goto (-28), 3) := by decide +kernel
theorem dX8_alikeFrom_45 : decode cX8_alikeFrom 45 = .ok (.iload 4, 2) := by decide +kernel
theorem dX8_alikeFrom_47 : decode cX8_alikeFrom 47 = .ok (.ireturn, 1) := by decide +kernel
set_option maxRecDepth 20000 in
theorem ggX8_alikeAhead_X8_letterAt : GoodIn wsX8_alikeAhead wsX8_letterAt := goodIn_r _ [9, 10, 11, 12, 13] (by decide +kernel) (by decide +kernel)
set_option maxRecDepth 20000 in
theorem gX8_alikeAhead_X8_letterAt : GoodIn wsX8_alikeAhead (wsV RX8 19 RX8 yX8_letterAt wsX8_letterAt) := goodIn_app (goodIn_of _ (by decide +kernel)) ggX8_alikeAhead_X8_letterAt
theorem dX8_alikeAhead_0 : decode cX8_alikeAhead 0 = .ok (.iload_n 1, 1) := by decide +kernel
theorem dX8_alikeAhead_1 : decode cX8_alikeAhead 1 = .ok (.iload_n 2, 1) := by decide +kernel
theorem dX8_alikeAhead_2 : decode cX8_alikeAhead 2 = .ok (.invokestatic 48, 3) := by decide +kernel
theorem dX8_alikeAhead_5 : decode cX8_alikeAhead 5 = .ok (.istore_n 3, 1) := by decide +kernel
theorem dX8_alikeAhead_6 : decode cX8_alikeAhead 6 = .ok (.iconst 0, 1) := by decide +kernel
theorem dX8_alikeAhead_7 : decode cX8_alikeAhead 7 = .ok (.istore 4, 2) := by decide +kernel
theorem dX8_alikeAhead_9 : decode cX8_alikeAhead 9 = .ok (.iload 4, 2) := by decide +kernel
theorem dX8_alikeAhead_11 : decode cX8_alikeAhead 11 = .ok (.iload_n 3, 1) := by decide +kernel
theorem dX8_alikeAhead_12 : decode cX8_alikeAhead 12 = .ok (.if_icmp .ge 32, 3) := by decide +kernel
theorem dX8_alikeAhead_15 : decode cX8_alikeAhead 15 = .ok (.aload_n 0, 1) := by decide +kernel
theorem dX8_alikeAhead_16 : decode cX8_alikeAhead 16 = .ok (.iload_n 1, 1) := by decide +kernel
theorem dX8_alikeAhead_17 : decode cX8_alikeAhead 17 = .ok (.iconst 1, 1) := by decide +kernel
theorem dX8_alikeAhead_18 : decode cX8_alikeAhead 18 = .ok (.isub, 1) := by decide +kernel
theorem dX8_alikeAhead_19 : decode cX8_alikeAhead 19 = .ok (.iload 4, 2) := by decide +kernel
theorem dX8_alikeAhead_21 : decode cX8_alikeAhead 21 = .ok (.isub, 1) := by decide +kernel
theorem dX8_alikeAhead_22 : decode cX8_alikeAhead 22 = .ok (.invokevirtual 19, 3) := by decide +kernel
theorem dX8_alikeAhead_25 : decode cX8_alikeAhead 25 = .ok (.aload_n 0, 1) := by decide +kernel
theorem dX8_alikeAhead_26 : decode cX8_alikeAhead 26 = .ok (.iload_n 2, 1) := by decide +kernel
theorem dX8_alikeAhead_27 : decode cX8_alikeAhead 27 = .ok (.iconst 1, 1) := by decide +kernel
theorem dX8_alikeAhead_28 : decode cX8_alikeAhead 28 = .ok (.isub, 1) := by decide +kernel
theorem dX8_alikeAhead_29 : decode cX8_alikeAhead 29 = .ok (.iload 4, 2) := by decide +kernel
theorem dX8_alikeAhead_31 : decode cX8_alikeAhead 31 = .ok (.isub, 1) := by decide +kernel
theorem dX8_alikeAhead_32 : decode cX8_alikeAhead 32 = .ok (.invokevirtual 19, 3) := by decide +kernel
theorem dX8_alikeAhead_35 : decode cX8_alikeAhead 35 = .ok (.if_icmp .ne 9, 3) := by decide +kernel
theorem dX8_alikeAhead_38 : decode cX8_alikeAhead 38 = .ok (.iinc 4 1, 3) := by decide +kernel
theorem dX8_alikeAhead_41 : decode cX8_alikeAhead 41 = .ok (.goto (-32), 3) := by decide +kernel
theorem dX8_alikeAhead_44 : decode cX8_alikeAhead 44 = .ok (.iload 4, 2) := by decide +kernel
theorem dX8_alikeAhead_46 : decode cX8_alikeAhead 46 = .ok (.ireturn, 1) := by decide +kernel
set_option maxRecDepth 20000 in
theorem ggX9_init_X8_init : GoodIn wsX9_init wsX8_init := goodIn_r _ [24, 25, 2, 3, 26, 27, 28, 51, 52] (by decide +kernel) (by decide +kernel)
set_option maxRecDepth 20000 in
theorem gX9_init_X8_init_n9 : GoodIn wsX9_init (wsX8_init) := ggX9_init_X8_init
set_option maxRecDepth 20000 in
theorem ggX9_init_X1_init : GoodIn wsX9_init wsX1_init := goodIn_r _ [31, 32, 2, 3, 33, 34, 35, 36, 5, 6, 23, 24, 25, 26, 27, 28, 60, 61, 62, 51, 52] (by decide +kernel) (by decide +kernel)
set_option maxRecDepth 20000 in
theorem gX9_init_X1_init : GoodIn wsX9_init (wsX1_init) := ggX9_init_X1_init
set_option maxRecDepth 20000 in
theorem ggX9_init_X7_init : GoodIn wsX9_init wsX7_init := goodIn_r _ [38, 39, 2, 3, 40, 41, 42, 63, 64] (by decide +kernel) (by decide +kernel)
set_option maxRecDepth 20000 in
theorem gX9_init_X7_init_n35 : GoodIn wsX9_init (wsX7_init) := ggX9_init_X7_init
set_option maxRecDepth 20000 in
theorem ggX9_init_X3_init : GoodIn wsX9_init wsX3_init := goodIn_r _ [44, 45, 2, 3, 46, 5, 6, 47, 48, 49, 50, 23, 24, 25, 26, 27, 28, 51, 52, 65, 66, 67, 68] (by decide +kernel) (by decide +kernel)
set_option maxRecDepth 20000 in
theorem gX9_init_X3_init_n42 : GoodIn wsX9_init (wsX3_init) := ggX9_init_X3_init
theorem dX9_init_0 : decode cX9_init 0 = .ok (.aload_n 0, 1) := by decide +kernel
theorem dX9_init_1 : decode cX9_init 1 = .ok (.invokespecial 1, 3) := by decide +kernel
theorem dX9_init_4 : decode cX9_init 4 = .ok (.aload_n 0, 1) := by decide +kernel
theorem dX9_init_5 : decode cX9_init 5 = .ok (.new 7, 3) := by decide +kernel
theorem dX9_init_8 : decode cX9_init 8 = .ok (.dup, 1) := by decide +kernel
theorem dX9_init_9 : decode cX9_init 9 = .ok (.invokespecial 9, 3) := by decide +kernel
theorem dX9_init_12 : decode cX9_init 12 = .ok (.putfield 10, 3) := by decide +kernel
theorem dX9_init_15 : decode cX9_init 15 = .ok (.aload_n 0, 1) := by decide +kernel
theorem dX9_init_16 : decode cX9_init 16 = .ok (.new 7, 3) := by decide +kernel
theorem dX9_init_19 : decode cX9_init 19 = .ok (.dup, 1) := by decide +kernel
theorem dX9_init_20 : decode cX9_init 20 = .ok (.invokespecial 9, 3) := by decide +kernel
theorem dX9_init_23 : decode cX9_init 23 = .ok (.putfield 16, 3) := by decide +kernel
theorem dX9_init_26 : decode cX9_init 26 = .ok (.aload_n 0, 1) := by decide +kernel
theorem dX9_init_27 : decode cX9_init 27 = .ok (.new 7, 3) := by decide +kernel
theorem dX9_init_30 : decode cX9_init 30 = .ok (.dup, 1) := by decide +kernel
theorem dX9_init_31 : decode cX9_init 31 = .ok (.invokespecial 9, 3) := by decide +kernel
theorem dX9_init_34 : decode cX9_init 34 = .ok (.putfield 19, 3) := by decide +kernel
theorem dX9_init_37 : decode cX9_init 37 = .ok (.aload_n 0, 1) := by decide +kernel
theorem dX9_init_38 : decode cX9_init 38 = .ok (.iconst 0, 1) := by decide +kernel
theorem dX9_init_39 : decode cX9_init 39 = .ok (.putfield 22, 3) := by decide +kernel
theorem dX9_init_42 : decode cX9_init 42 = .ok (.aload_n 0, 1) := by decide +kernel
theorem dX9_init_43 : decode cX9_init 43 = .ok (.new 26, 3) := by decide +kernel
theorem dX9_init_46 : decode cX9_init 46 = .ok (.dup, 1) := by decide +kernel
theorem dX9_init_47 : decode cX9_init 47 = .ok (.invokespecial 28, 3) := by decide +kernel
theorem dX9_init_50 : decode cX9_init 50 = .ok (.putfield 29, 3) := by decide +kernel
theorem dX9_init_53 : decode cX9_init 53 = .ok (.aload_n 0, 1) := by decide +kernel
theorem dX9_init_54 : decode cX9_init 54 = .ok (.new 33, 3) := by decide +kernel
theorem dX9_init_57 : decode cX9_init 57 = .ok (.dup, 1) := by decide +kernel
theorem dX9_init_58 : decode cX9_init 58 = .ok (.invokespecial 35, 3) := by decide +kernel
theorem dX9_init_61 : decode cX9_init 61 = .ok (.putfield 36, 3) := by decide +kernel
theorem dX9_init_64 : decode cX9_init 64 = .ok (.aload_n 0, 1) := by decide +kernel
theorem dX9_init_65 : decode cX9_init 65 = .ok (.new 40, 3) := by decide +kernel
theorem dX9_init_68 : decode cX9_init 68 = .ok (.dup, 1) := by decide +kernel
theorem dX9_init_69 : decode cX9_init 69 = .ok (.invokespecial 42, 3) := by decide +kernel
theorem dX9_init_72 : decode cX9_init 72 = .ok (.putfield 43, 3) := by decide +kernel
theorem dX9_init_75 : decode cX9_init 75 = .ok (.return_, 1) := by decide +kernel
set_option maxRecDepth 20000 in
theorem ggX9_add_X9_isLetter : GoodIn wsX9_add wsX9_isLetter := goodIn_r _ [6] (by decide +kernel) (by decide +kernel)
set_option maxRecDepth 20000 in
theorem gX9_add_X9_isLetter : GoodIn wsX9_add (va_wsS RX9 47 yX9_isLetter wsX9_isLetter) := goodIn_app (goodIn_of _ (by decide +kernel)) ggX9_add_X9_isLetter
set_option maxRecDepth 20000 in
theorem ggX9_add_X8_isFull : GoodIn wsX9_add wsX8_isFull := goodIn_r _ [11, 12, 84, 85] (by decide +kernel) (by decide +kernel)
set_option maxRecDepth 20000 in
theorem gX9_add_X8_isFull : GoodIn wsX9_add (wsV RX9 51 RX8 yX8_isFull wsX8_isFull) := goodIn_app (goodIn_of _ (by decide +kernel)) ggX9_add_X8_isFull
set_option maxRecDepth 20000 in
theorem ggX9_add_X9_draftWith : GoodIn wsX9_add wsX9_draftWith := goodIn_r _ [16, 2, 1, 17, 18, 19, 10, 20, 21, 22, 23, 24, 12, 25, 26, 27, 28, 29, 30, 31, 32, 33, 34, 35, 36, 37, 38, 39, 40, 41, 42, 77, 78, 79, 80, 81, 82, 83, 84, 85] (by decide +kernel) (by decide +kernel)
set_option maxRecDepth 20000 in
theorem gX9_add_X9_draftWith : GoodIn wsX9_add (wsV RX9 55 RX9 yX9_draftWith wsX9_draftWith) := goodIn_app (goodIn_of _ (by decide +kernel)) ggX9_add_X9_draftWith
set_option maxRecDepth 20000 in
theorem ggX9_add_X9_become : GoodIn wsX9_add wsX9_become := goodIn_r _ [46, 47, 1, 48, 49, 50, 51, 52, 53, 54, 55, 56, 57, 58, 59, 60, 61, 62, 63, 64, 18, 19, 10, 20, 21, 22, 23, 24, 12, 25, 26, 27, 28, 29, 30, 31, 32, 33, 34, 35, 36, 37, 38, 39, 40, 41, 17, 77, 78, 79, 80, 81, 82, 83, 86, 87, 88, 84, 85] (by decide +kernel) (by decide +kernel)
set_option maxRecDepth 20000 in
theorem gX9_add_X9_become : GoodIn wsX9_add (wsV RX9 59 RX9 yX9_become wsX9_become) := goodIn_app (goodIn_of _ (by decide +kernel)) ggX9_add_X9_become
set_option maxRecDepth 20000 in
theorem ggX9_add_X8_length : GoodIn wsX9_add wsX8_length := goodIn_r _ [28, 12, 84, 85] (by decide +kernel) (by decide +kernel)
set_option maxRecDepth 20000 in
theorem gX9_add_X8_length : GoodIn wsX9_add (wsV RX9 63 RX8 yX8_length wsX8_length) := goodIn_app (goodIn_of _ (by decide +kernel)) ggX9_add_X8_length
set_option maxRecDepth 20000 in
theorem ggX9_add_X2_longestBorder : GoodIn wsX9_add wsX2_longestBorder := goodIn_r _ [69, 70, 71, 68, 72, 73, 74, 75, 76, 34, 35, 10, 36, 12, 37, 84, 85] (by decide +kernel) (by decide +kernel)
set_option maxRecDepth 20000 in
theorem gX9_add_X2_longestBorder : GoodIn wsX9_add (va_wsS RX9 67 yX2_longestBorder wsX2_longestBorder) := goodIn_app (goodIn_of _ (by decide +kernel)) ggX9_add_X2_longestBorder
theorem dX9_add_0 : decode cX9_add 0 = .ok (.iload_n 1, 1) := by decide +kernel
theorem dX9_add_1 : decode cX9_add 1 = .ok (.invokestatic 47, 3) := by decide +kernel
theorem dX9_add_4 : decode cX9_add 4 = .ok (.ifCond .ne 6, 3) := by decide +kernel
theorem dX9_add_7 : decode cX9_add 7 = .ok (.bipush (-2), 2) := by decide +kernel
theorem dX9_add_9 : decode cX9_add 9 = .ok (.ireturn, 1) := by decide +kernel
theorem dX9_add_10 : decode cX9_add 10 = .ok (.aload_n 0, 1) := by decide +kernel
theorem dX9_add_11 : decode cX9_add 11 = .ok (.getfield 10, 3) := by decide +kernel
theorem dX9_add_14 : decode cX9_add 14 = .ok (.invokevirtual 51, 3) := by decide +kernel
theorem dX9_add_17 : decode cX9_add 17 = .ok (.ifCond .eq 6, 3) := by decide +kernel
theorem dX9_add_20 : decode cX9_add 20 = .ok (.bipush (-3), 2) := by decide +kernel
theorem dX9_add_22 : decode cX9_add 22 = .ok (.ireturn, 1) := by decide +kernel
theorem dX9_add_23 : decode cX9_add 23 = .ok (.aload_n 0, 1) := by decide +kernel
theorem dX9_add_24 : decode cX9_add 24 = .ok (.iload_n 1, 1) := by decide +kernel
theorem dX9_add_25 : decode cX9_add 25 = .ok (.invokevirtual 55, 3) := by decide +kernel
theorem dX9_add_28 : decode cX9_add 28 = .ok (.aload_n 0, 1) := by decide +kernel
theorem dX9_add_29 : decode cX9_add 29 = .ok (.aload_n 0, 1) := by decide +kernel
theorem dX9_add_30 : decode cX9_add 30 = .ok (.getfield 16, 3) := by decide +kernel
theorem dX9_add_33 : decode cX9_add 33 = .ok (.invokevirtual 59, 3) := by decide +kernel
theorem dX9_add_36 : decode cX9_add 36 = .ok (.aload_n 0, 1) := by decide +kernel
theorem dX9_add_37 : decode cX9_add 37 = .ok (.getfield 10, 3) := by decide +kernel
theorem dX9_add_40 : decode cX9_add 40 = .ok (.iconst 0, 1) := by decide +kernel
theorem dX9_add_41 : decode cX9_add 41 = .ok (.aload_n 0, 1) := by decide +kernel
theorem dX9_add_42 : decode cX9_add 42 = .ok (.getfield 10, 3) := by decide +kernel
theorem dX9_add_45 : decode cX9_add 45 = .ok (.invokevirtual 63, 3) := by decide +kernel
theorem dX9_add_48 : decode cX9_add 48 = .ok (.invokestatic 67, 3) := by decide +kernel
theorem dX9_add_51 : decode cX9_add 51 = .ok (.ireturn, 1) := by decide +kernel
set_option maxRecDepth 20000 in
theorem ggX9_drop_X8_length : GoodIn wsX9_drop wsX8_length := goodIn_r _ [7, 8, 63, 64] (by decide +kernel) (by decide +kernel)
set_option maxRecDepth 20000 in
theorem gX9_drop_X8_length : GoodIn wsX9_drop (wsV RX9 63 RX8 yX8_length wsX8_length) := goodIn_app (goodIn_of _ (by decide +kernel)) ggX9_drop_X8_length
set_option maxRecDepth 20000 in
theorem ggX9_drop_X8_clear : GoodIn wsX9_drop wsX8_clear := goodIn_r _ [12, 8, 63, 64] (by decide +kernel) (by decide +kernel)
set_option maxRecDepth 20000 in
theorem gX9_drop_X8_clear : GoodIn wsX9_drop (wsV RX9 73 RX8 yX8_clear wsX8_clear) := goodIn_app (goodIn_of _ (by decide +kernel)) ggX9_drop_X8_clear
set_option maxRecDepth 20000 in
theorem ggX9_drop_X8_appendFactor : GoodIn wsX9_drop wsX8_appendFactor := goodIn_r _ [16, 17, 18, 19, 6, 20, 8, 21, 22, 23, 24, 25, 63, 64] (by decide +kernel) (by decide +kernel)
set_option maxRecDepth 20000 in
theorem gX9_drop_X8_appendFactor : GoodIn wsX9_drop (wsV RX9 76 RX8 yX8_appendFactor wsX8_appendFactor) := goodIn_app (goodIn_of _ (by decide +kernel)) ggX9_drop_X8_appendFactor
set_option maxRecDepth 20000 in
theorem ggX9_drop_X9_become : GoodIn wsX9_drop wsX9_become := goodIn_r _ [30, 31, 1, 32, 33, 34, 35, 36, 37, 38, 39, 40, 41, 42, 43, 44, 45, 46, 47, 48, 49, 50, 6, 51, 52, 10, 11, 12, 8, 53, 4, 5, 7, 54, 14, 15, 16, 17, 18, 19, 20, 21, 22, 23, 24, 25, 55, 56, 57, 58, 59, 60, 61, 62, 65, 66, 67, 63, 64] (by decide +kernel) (by decide +kernel)
set_option maxRecDepth 20000 in
theorem gX9_drop_X9_become : GoodIn wsX9_drop (wsV RX9 59 RX9 yX9_become wsX9_become) := goodIn_app (goodIn_of _ (by decide +kernel)) ggX9_drop_X9_become
theorem dX9_drop_0 : decode cX9_drop 0 = .ok (.iload_n 1, 1) := by decide +kernel
theorem dX9_drop_1 : decode cX9_drop 1 = .ok (.iconst 1, 1) := by decide +kernel
theorem dX9_drop_2 : decode cX9_drop 2 = .ok (.if_icmp .lt 9, 3) := by decide +kernel
theorem dX9_drop_5 : decode cX9_drop 5 = .ok (.iload_n 1, 1) := by decide +kernel
theorem dX9_drop_6 : decode cX9_drop 6 = .ok (.bipush 40, 2) := by decide +kernel
theorem dX9_drop_8 : decode cX9_drop 8 = .ok (.if_icmp .le 6, 3) := by decide +kernel
theorem dX9_drop_11 : decode cX9_drop 11 = .ok (.bipush (-2), 2) := by decide +kernel
theorem dX9_drop_13 : decode cX9_drop 13 = .ok (.ireturn, 1) := by decide +kernel
theorem dX9_drop_14 : decode cX9_drop 14 = .ok (.iload_n 1, 1) := by decide +kernel
theorem dX9_drop_15 : decode cX9_drop 15 = .ok (.aload_n 0, 1) := by decide +kernel
theorem dX9_drop_16 : decode cX9_drop 16 = .ok (.getfield 10, 3) := by decide +kernel
theorem dX9_drop_19 : decode cX9_drop 19 = .ok (.invokevirtual 63, 3) := by decide +kernel
theorem dX9_drop_22 : decode cX9_drop 22 = .ok (.if_icmp .le 5, 3) := by decide +kernel
theorem dX9_drop_25 : decode cX9_drop 25 = .ok (.iconst (-1), 1) := by decide +kernel
theorem dX9_drop_26 : decode cX9_drop 26 = .ok (.ireturn, 1) := by decide +kernel
theorem dX9_drop_27 : decode cX9_drop 27 = .ok (.aload_n 0, 1) := by decide +kernel
theorem dX9_drop_28 : decode cX9_drop 28 = .ok (.getfield 16, 3) := by decide +kernel
theorem dX9_drop_31 : decode cX9_drop 31 = .ok (.invokevirtual 73, 3) := by decide +kernel
theorem dX9_drop_34 : decode cX9_drop 34 = .ok (.aload_n 0, 1) := by decide +kernel
theorem dX9_drop_35 : decode cX9_drop 35 = .ok (.getfield 16, 3) := by decide +kernel
theorem dX9_drop_38 : decode cX9_drop 38 = .ok (.aload_n 0, 1) := by decide +kernel
theorem dX9_drop_39 : decode cX9_drop 39 = .ok (.getfield 10, 3) := by decide +kernel
theorem dX9_drop_42 : decode cX9_drop 42 = .ok (.iconst 0, 1) := by decide +kernel
theorem dX9_drop_43 : decode cX9_drop 43 = .ok (.aload_n 0, 1) := by decide +kernel
theorem dX9_drop_44 : decode cX9_drop 44 = .ok (.getfield 10, 3) := by decide +kernel
theorem dX9_drop_47 : decode cX9_drop 47 = .ok (.invokevirtual 63, 3) := by decide +kernel
theorem dX9_drop_50 : decode cX9_drop 50 = .ok (.iload_n 1, 1) := by decide +kernel
theorem dX9_drop_51 : decode cX9_drop 51 = .ok (.isub, 1) := by decide +kernel
theorem dX9_drop_52 : decode cX9_drop 52 = .ok (.invokevirtual 76, 3) := by decide +kernel
theorem dX9_drop_55 : decode cX9_drop 55 = .ok (.aload_n 0, 1) := by decide +kernel
theorem dX9_drop_56 : decode cX9_drop 56 = .ok (.aload_n 0, 1) := by decide +kernel
theorem dX9_drop_57 : decode cX9_drop 57 = .ok (.getfield 16, 3) := by decide +kernel
theorem dX9_drop_60 : decode cX9_drop 60 = .ok (.invokevirtual 59, 3) := by decide +kernel
theorem dX9_drop_63 : decode cX9_drop 63 = .ok (.aload_n 0, 1) := by decide +kernel
theorem dX9_drop_64 : decode cX9_drop 64 = .ok (.getfield 10, 3) := by decide +kernel
theorem dX9_drop_67 : decode cX9_drop 67 = .ok (.invokevirtual 63, 3) := by decide +kernel
theorem dX9_drop_70 : decode cX9_drop 70 = .ok (.ireturn, 1) := by decide +kernel
set_option maxRecDepth 20000 in
theorem ggX9_change_X8_isPlace : GoodIn wsX9_change wsX8_isPlace := goodIn_r _ [7, 8, 72, 73] (by decide +kernel) (by decide +kernel)
set_option maxRecDepth 20000 in
theorem gX9_change_X8_isPlace : GoodIn wsX9_change (wsV RX9 80 RX8 yX8_isPlace wsX8_isPlace) := goodIn_app (goodIn_of _ (by decide +kernel)) ggX9_change_X8_isPlace
set_option maxRecDepth 20000 in
theorem ggX9_change_X9_isLetter : GoodIn wsX9_change wsX9_isLetter := goodIn_r _ [12] (by decide +kernel) (by decide +kernel)
set_option maxRecDepth 20000 in
theorem gX9_change_X9_isLetter : GoodIn wsX9_change (va_wsS RX9 47 yX9_isLetter wsX9_isLetter) := goodIn_app (goodIn_of _ (by decide +kernel)) ggX9_change_X9_isLetter
set_option maxRecDepth 20000 in
theorem ggX9_change_X8_letterAt : GoodIn wsX9_change wsX8_letterAt := goodIn_r _ [16, 8, 17, 72, 73] (by decide +kernel) (by decide +kernel)
set_option maxRecDepth 20000 in
theorem gX9_change_X8_letterAt : GoodIn wsX9_change (wsV RX9 83 RX8 yX8_letterAt wsX8_letterAt) := goodIn_app (goodIn_of _ (by decide +kernel)) ggX9_change_X8_letterAt
set_option maxRecDepth 20000 in
theorem ggX9_change_X8_clear : GoodIn wsX9_change wsX8_clear := goodIn_r _ [21, 8, 72, 73] (by decide +kernel) (by decide +kernel)
set_option maxRecDepth 20000 in
theorem gX9_change_X8_clear : GoodIn wsX9_change (wsV RX9 73 RX8 yX8_clear wsX8_clear) := goodIn_app (goodIn_of _ (by decide +kernel)) ggX9_change_X8_clear
set_option maxRecDepth 20000 in
theorem ggX9_change_X8_appendFactor : GoodIn wsX9_change wsX8_appendFactor := goodIn_r _ [25, 26, 14, 15, 6, 16, 8, 17, 27, 28, 29, 30, 72, 73] (by decide +kernel) (by decide +kernel)
set_option maxRecDepth 20000 in
theorem gX9_change_X8_appendFactor : GoodIn wsX9_change (wsV RX9 76 RX8 yX8_appendFactor wsX8_appendFactor) := goodIn_app (goodIn_of _ (by decide +kernel)) ggX9_change_X8_appendFactor
set_option maxRecDepth 20000 in
theorem ggX9_change_X8_append : GoodIn wsX9_change wsX8_append := goodIn_r _ [30, 8, 17, 72, 73] (by decide +kernel) (by decide +kernel)
set_option maxRecDepth 20000 in
theorem gX9_change_X8_append : GoodIn wsX9_change (wsV RX9 87 RX8 yX8_append wsX8_append) := goodIn_app (goodIn_of _ (by decide +kernel)) ggX9_change_X8_append
set_option maxRecDepth 20000 in
theorem ggX9_change_X8_length : GoodIn wsX9_change wsX8_length := goodIn_r _ [35, 8, 72, 73] (by decide +kernel) (by decide +kernel)
set_option maxRecDepth 20000 in
theorem gX9_change_X8_length : GoodIn wsX9_change (wsV RX9 63 RX8 yX8_length wsX8_length) := goodIn_app (goodIn_of _ (by decide +kernel)) ggX9_change_X8_length
set_option maxRecDepth 20000 in
theorem ggX9_change_X9_become : GoodIn wsX9_change wsX9_become := goodIn_r _ [39, 40, 1, 41, 42, 43, 44, 45, 46, 47, 48, 49, 50, 51, 52, 53, 54, 55, 56, 57, 58, 59, 6, 60, 61, 19, 20, 21, 8, 62, 33, 34, 35, 63, 23, 24, 25, 26, 14, 15, 16, 17, 27, 28, 29, 30, 64, 65, 66, 67, 68, 69, 70, 71, 74, 75, 76, 72, 73] (by decide +kernel) (by decide +kernel)
set_option maxRecDepth 20000 in
theorem gX9_change_X9_become : GoodIn wsX9_change (wsV RX9 59 RX9 yX9_become wsX9_become) := goodIn_app (goodIn_of _ (by decide +kernel)) ggX9_change_X9_become
theorem dX9_change_0 : decode cX9_change 0 = .ok (.aload_n 0, 1) := by decide +kernel
theorem dX9_change_1 : decode cX9_change 1 = .ok (.getfield 10, 3) := by decide +kernel
theorem dX9_change_4 : decode cX9_change 4 = .ok (.iload_n 1, 1) := by decide +kernel
theorem dX9_change_5 : decode cX9_change 5 = .ok (.invokevirtual 80, 3) := by decide +kernel
theorem dX9_change_8 : decode cX9_change 8 = .ok (.ifCond .ne 5, 3) := by decide +kernel
theorem dX9_change_11 : decode cX9_change 11 = .ok (.iconst (-1), 1) := by decide +kernel
theorem dX9_change_12 : decode cX9_change 12 = .ok (.ireturn, 1) := by decide +kernel
theorem dX9_change_13 : decode cX9_change 13 = .ok (.iload_n 2, 1) := by decide +kernel
theorem dX9_change_14 : decode cX9_change 14 = .ok (.invokestatic 47, 3) := by decide +kernel
theorem dX9_change_17 : decode cX9_change 17 = .ok (.ifCond .ne 6, 3) := by decide +kernel
theorem dX9_change_20 : decode cX9_change 20 = .ok (.bipush (-2), 2) := by decide +kernel
theorem dX9_change_22 : decode cX9_change 22 = .ok (.ireturn, 1) := by decide +kernel
theorem dX9_change_23 : decode cX9_change 23 = .ok (.aload_n 0, 1) := by decide +kernel
theorem dX9_change_24 : decode cX9_change 24 = .ok (.getfield 10, 3) := by decide +kernel
theorem dX9_change_27 : decode cX9_change 27 = .ok (.iload_n 1, 1) := by decide +kernel
theorem dX9_change_28 : decode cX9_change 28 = .ok (.invokevirtual 83, 3) := by decide +kernel
theorem dX9_change_31 : decode cX9_change 31 = .ok (.istore_n 3, 1) := by decide +kernel
theorem dX9_change_32 : decode cX9_change 32 = .ok (.iload_n 3, 1) := by decide +kernel
theorem dX9_change_33 : decode cX9_change 33 = .ok (.iload_n 2, 1) := by decide +kernel
theorem dX9_change_34 : decode cX9_change 34 = .ok (.if_icmp .ne 6, 3) := by decide +kernel
theorem dX9_change_37 : decode cX9_change 37 = .ok (.bipush (-4), 2) := by decide +kernel
theorem dX9_change_39 : decode cX9_change 39 = .ok (.ireturn, 1) := by decide +kernel
theorem dX9_change_40 : decode cX9_change 40 = .ok (.aload_n 0, 1) := by decide +kernel
theorem dX9_change_41 : decode cX9_change 41 = .ok (.getfield 16, 3) := by decide +kernel
theorem dX9_change_44 : decode cX9_change 44 = .ok (.invokevirtual 73, 3) := by decide +kernel
theorem dX9_change_47 : decode cX9_change 47 = .ok (.aload_n 0, 1) := by decide +kernel
theorem dX9_change_48 : decode cX9_change 48 = .ok (.getfield 16, 3) := by decide +kernel
theorem dX9_change_51 : decode cX9_change 51 = .ok (.aload_n 0, 1) := by decide +kernel
theorem dX9_change_52 : decode cX9_change 52 = .ok (.getfield 10, 3) := by decide +kernel
theorem dX9_change_55 : decode cX9_change 55 = .ok (.iconst 0, 1) := by decide +kernel
theorem dX9_change_56 : decode cX9_change 56 = .ok (.iload_n 1, 1) := by decide +kernel
theorem dX9_change_57 : decode cX9_change 57 = .ok (.invokevirtual 76, 3) := by decide +kernel
theorem dX9_change_60 : decode cX9_change 60 = .ok (.aload_n 0, 1) := by decide +kernel
theorem dX9_change_61 : decode cX9_change 61 = .ok (.getfield 16, 3) := by decide +kernel
theorem dX9_change_64 : decode cX9_change 64 = .ok (.iload_n 2, 1) := by decide +kernel
theorem dX9_change_65 : decode cX9_change 65 = .ok (.invokevirtual 87, 3) := by decide +kernel
theorem dX9_change_68 : decode cX9_change 68 = .ok (.aload_n 0, 1) := by decide +kernel
theorem dX9_change_69 : decode cX9_change 69 = .ok (.getfield 16, 3) := by decide +kernel
theorem dX9_change_72 : decode cX9_change 72 = .ok (.aload_n 0, 1) := by decide +kernel
theorem dX9_change_73 : decode cX9_change 73 = .ok (.getfield 10, 3) := by decide +kernel
theorem dX9_change_76 : decode cX9_change 76 = .ok (.iload_n 1, 1) := by decide +kernel
theorem dX9_change_77 : decode cX9_change 77 = .ok (.iconst 1, 1) := by decide +kernel
theorem dX9_change_78 : decode cX9_change 78 = .ok (.iadd, 1) := by decide +kernel
theorem dX9_change_79 : decode cX9_change 79 = .ok (.aload_n 0, 1) := by decide +kernel
theorem dX9_change_80 : decode cX9_change 80 = .ok (.getfield 10, 3) := by decide +kernel
theorem dX9_change_83 : decode cX9_change 83 = .ok (.invokevirtual 63, 3) := by decide +kernel
theorem dX9_change_86 : decode cX9_change 86 = .ok (.invokevirtual 76, 3) := by decide +kernel
theorem dX9_change_89 : decode cX9_change 89 = .ok (.aload_n 0, 1) := by decide +kernel
theorem dX9_change_90 : decode cX9_change 90 = .ok (.aload_n 0, 1) := by decide +kernel
theorem dX9_change_91 : decode cX9_change 91 = .ok (.getfield 16, 3) := by decide +kernel
theorem dX9_change_94 : decode cX9_change 94 = .ok (.invokevirtual 59, 3) := by decide +kernel
theorem dX9_change_97 : decode cX9_change 97 = .ok (.iload_n 3, 1) := by decide +kernel
theorem dX9_change_98 : decode cX9_change 98 = .ok (.ireturn, 1) := by decide +kernel
set_option maxRecDepth 20000 in
theorem ggX9_reverse_X8_clear : GoodIn wsX9_reverse wsX8_clear := goodIn_r _ [7, 8, 68, 69] (by decide +kernel) (by decide +kernel)
set_option maxRecDepth 20000 in
theorem gX9_reverse_X8_clear : GoodIn wsX9_reverse (wsV RX9 73 RX8 yX8_clear wsX8_clear) := goodIn_app (goodIn_of _ (by decide +kernel)) ggX9_reverse_X8_clear
set_option maxRecDepth 20000 in
theorem ggX9_reverse_X8_length : GoodIn wsX9_reverse wsX8_length := goodIn_r _ [12, 8, 68, 69] (by decide +kernel) (by decide +kernel)
set_option maxRecDepth 20000 in
theorem gX9_reverse_X8_length : GoodIn wsX9_reverse (wsV RX9 63 RX8 yX8_length wsX8_length) := goodIn_app (goodIn_of _ (by decide +kernel)) ggX9_reverse_X8_length
set_option maxRecDepth 20000 in
theorem ggX9_reverse_X8_letterAt : GoodIn wsX9_reverse wsX8_letterAt := goodIn_r _ [16, 8, 17, 68, 69] (by decide +kernel) (by decide +kernel)
set_option maxRecDepth 20000 in
theorem gX9_reverse_X8_letterAt : GoodIn wsX9_reverse (wsV RX9 83 RX8 yX8_letterAt wsX8_letterAt) := goodIn_app (goodIn_of _ (by decide +kernel)) ggX9_reverse_X8_letterAt
set_option maxRecDepth 20000 in
theorem ggX9_reverse_X8_append : GoodIn wsX9_reverse wsX8_append := goodIn_r _ [21, 8, 17, 68, 69] (by decide +kernel) (by decide +kernel)
set_option maxRecDepth 20000 in
theorem gX9_reverse_X8_append : GoodIn wsX9_reverse (wsV RX9 87 RX8 yX8_append wsX8_append) := goodIn_app (goodIn_of _ (by decide +kernel)) ggX9_reverse_X8_append
set_option maxRecDepth 20000 in
theorem ggX9_reverse_X8_isSameAs : GoodIn wsX9_reverse wsX8_isSameAs := goodIn_r _ [25, 8, 26, 10, 11, 6, 12, 27, 14, 15, 16, 17, 68, 69] (by decide +kernel) (by decide +kernel)
set_option maxRecDepth 20000 in
theorem gX9_reverse_X8_isSameAs : GoodIn wsX9_reverse (wsV RX9 90 RX8 yX8_isSameAs wsX8_isSameAs) := goodIn_app (goodIn_of _ (by decide +kernel)) ggX9_reverse_X8_isSameAs
set_option maxRecDepth 20000 in
theorem ggX9_reverse_X9_become : GoodIn wsX9_reverse wsX9_become := goodIn_r _ [32, 33, 2, 34, 35, 36, 37, 38, 39, 40, 41, 42, 43, 44, 45, 46, 47, 48, 49, 50, 51, 52, 6, 53, 54, 4, 5, 7, 8, 26, 10, 11, 12, 55, 56, 57, 58, 27, 14, 15, 16, 17, 59, 19, 20, 21, 60, 61, 62, 63, 64, 65, 66, 67, 70, 71, 72, 68, 69] (by decide +kernel) (by decide +kernel)
set_option maxRecDepth 20000 in
theorem gX9_reverse_X9_become : GoodIn wsX9_reverse (wsV RX9 59 RX9 yX9_become wsX9_become) := goodIn_app (goodIn_of _ (by decide +kernel)) ggX9_reverse_X9_become
theorem dX9_reverse_0 : decode cX9_reverse 0 = .ok (.aload_n 0, 1) := by decide +kernel
theorem dX9_reverse_1 : decode cX9_reverse 1 = .ok (.getfield 16, 3) := by decide +kernel
theorem dX9_reverse_4 : decode cX9_reverse 4 = .ok (.invokevirtual 73, 3) := by decide +kernel
theorem dX9_reverse_7 : decode cX9_reverse 7 = .ok (.aload_n 0, 1) := by decide +kernel
theorem dX9_reverse_8 : decode cX9_reverse 8 = .ok (.getfield 10, 3) := by decide +kernel
theorem dX9_reverse_11 : decode cX9_reverse 11 = .ok (.invokevirtual 63, 3) := by decide +kernel
theorem dX9_reverse_14 : decode cX9_reverse 14 = .ok (.iconst 1, 1) := by decide +kernel
theorem dX9_reverse_15 : decode cX9_reverse 15 = .ok (.isub, 1) := by decide +kernel
theorem dX9_reverse_16 : decode cX9_reverse 16 = .ok (.istore_n 1, 1) := by decide +kernel
theorem dX9_reverse_17 : decode cX9_reverse 17 = .ok (.iload_n 1, 1) := by decide +kernel
theorem dX9_reverse_18 : decode cX9_reverse 18 = .ok (.ifCond .lt 24, 3) := by decide +kernel
theorem dX9_reverse_21 : decode cX9_reverse 21 = .ok (.aload_n 0, 1) := by decide +kernel
theorem dX9_reverse_22 : decode cX9_reverse 22 = .ok (.getfield 16, 3) := by decide +kernel
theorem dX9_reverse_25 : decode cX9_reverse 25 = .ok (.aload_n 0, 1) := by decide +kernel
theorem dX9_reverse_26 : decode cX9_reverse 26 = .ok (.getfield 10, 3) := by decide +kernel
theorem dX9_reverse_29 : decode cX9_reverse 29 = .ok (.iload_n 1, 1) := by decide +kernel
theorem dX9_reverse_30 : decode cX9_reverse 30 = .ok (.invokevirtual 83, 3) := by decide +kernel
theorem dX9_reverse_33 : decode cX9_reverse 33 = .ok (.invokevirtual 87, 3) := by decide +kernel
theorem dX9_reverse_36 : decode cX9_reverse 36 = .ok (.iinc 1 (-1), 3) := by decide +kernel
theorem dX9_reverse_39 : decode cX9_reverse 39 = .ok (.goto (-22), 3) := by decide +kernel
theorem dX9_reverse_42 : decode cX9_reverse 42 = .ok (.aload_n 0, 1) := by decide +kernel
theorem dX9_reverse_43 : decode cX9_reverse 43 = .ok (.getfield 16, 3) := by decide +kernel
theorem dX9_reverse_46 : decode cX9_reverse 46 = .ok (.aload_n 0, 1) := by decide +kernel
theorem dX9_reverse_47 : decode cX9_reverse 47 = .ok (.getfield 10, 3) := by decide +kernel
theorem dX9_reverse_50 : decode cX9_reverse 50 = .ok (.invokevirtual 90, 3) := by decide +kernel
theorem dX9_reverse_53 : decode cX9_reverse 53 = .ok (.ifCond .eq 6, 3) := by decide +kernel
theorem dX9_reverse_56 : decode cX9_reverse 56 = .ok (.bipush (-4), 2) := by decide +kernel
theorem dX9_reverse_58 : decode cX9_reverse 58 = .ok (.ireturn, 1) := by decide +kernel
theorem dX9_reverse_59 : decode cX9_reverse 59 = .ok (.aload_n 0, 1) := by decide +kernel
theorem dX9_reverse_60 : decode cX9_reverse 60 = .ok (.aload_n 0, 1) := by decide +kernel
theorem dX9_reverse_61 : decode cX9_reverse 61 = .ok (.getfield 16, 3) := by decide +kernel
theorem dX9_reverse_64 : decode cX9_reverse 64 = .ok (.invokevirtual 59, 3) := by decide +kernel
theorem dX9_reverse_67 : decode cX9_reverse 67 = .ok (.aload_n 0, 1) := by decide +kernel
theorem dX9_reverse_68 : decode cX9_reverse 68 = .ok (.getfield 10, 3) := by decide +kernel
theorem dX9_reverse_71 : decode cX9_reverse 71 = .ok (.invokevirtual 63, 3) := by decide +kernel
theorem dX9_reverse_74 : decode cX9_reverse 74 = .ok (.ireturn, 1) := by decide +kernel
set_option maxRecDepth 20000 in
theorem ggX9_turn_X8_length : GoodIn wsX9_turn wsX8_length := goodIn_r _ [7, 8, 68, 69] (by decide +kernel) (by decide +kernel)
set_option maxRecDepth 20000 in
theorem gX9_turn_X8_length : GoodIn wsX9_turn (wsV RX9 63 RX8 yX8_length wsX8_length) := goodIn_app (goodIn_of _ (by decide +kernel)) ggX9_turn_X8_length
set_option maxRecDepth 20000 in
theorem ggX9_turn_X8_clear : GoodIn wsX9_turn wsX8_clear := goodIn_r _ [12, 8, 68, 69] (by decide +kernel) (by decide +kernel)
set_option maxRecDepth 20000 in
theorem gX9_turn_X8_clear : GoodIn wsX9_turn (wsV RX9 73 RX8 yX8_clear wsX8_clear) := goodIn_app (goodIn_of _ (by decide +kernel)) ggX9_turn_X8_clear
set_option maxRecDepth 20000 in
theorem ggX9_turn_X8_appendFactor : GoodIn wsX9_turn wsX8_appendFactor := goodIn_r _ [16, 17, 18, 19, 6, 20, 8, 21, 22, 23, 24, 25, 68, 69] (by decide +kernel) (by decide +kernel)
set_option maxRecDepth 20000 in
theorem gX9_turn_X8_appendFactor : GoodIn wsX9_turn (wsV RX9 76 RX8 yX8_appendFactor wsX8_appendFactor) := goodIn_app (goodIn_of _ (by decide +kernel)) ggX9_turn_X8_appendFactor
set_option maxRecDepth 20000 in
theorem ggX9_turn_X8_isSameAs : GoodIn wsX9_turn wsX8_isSameAs := goodIn_r _ [29, 8, 30, 4, 5, 6, 7, 17, 18, 19, 20, 21, 68, 69] (by decide +kernel) (by decide +kernel)
set_option maxRecDepth 20000 in
theorem gX9_turn_X8_isSameAs : GoodIn wsX9_turn (wsV RX9 90 RX8 yX8_isSameAs wsX8_isSameAs) := goodIn_app (goodIn_of _ (by decide +kernel)) ggX9_turn_X8_isSameAs
set_option maxRecDepth 20000 in
theorem ggX9_turn_X9_become : GoodIn wsX9_turn wsX9_become := goodIn_r _ [35, 36, 1, 37, 38, 39, 40, 41, 42, 43, 44, 45, 46, 47, 48, 49, 50, 51, 52, 53, 54, 55, 6, 56, 57, 10, 11, 12, 8, 30, 4, 5, 7, 58, 14, 15, 16, 17, 18, 19, 20, 21, 22, 23, 24, 25, 59, 61, 62, 63, 64, 65, 66, 67, 70, 71, 72, 68, 69] (by decide +kernel) (by decide +kernel)
set_option maxRecDepth 20000 in
theorem gX9_turn_X9_become : GoodIn wsX9_turn (wsV RX9 59 RX9 yX9_become wsX9_become) := goodIn_app (goodIn_of _ (by decide +kernel)) ggX9_turn_X9_become
set_option maxRecDepth 20000 in
theorem ggX9_turn_X8_letterAt : GoodIn wsX9_turn wsX8_letterAt := goodIn_r _ [20, 8, 21, 68, 69] (by decide +kernel) (by decide +kernel)
set_option maxRecDepth 20000 in
theorem gX9_turn_X8_letterAt : GoodIn wsX9_turn (wsV RX9 83 RX8 yX8_letterAt wsX8_letterAt) := goodIn_app (goodIn_of _ (by decide +kernel)) ggX9_turn_X8_letterAt
theorem dX9_turn_0 : decode cX9_turn 0 = .ok (.iload_n 1, 1) := by decide +kernel
theorem dX9_turn_1 : decode cX9_turn 1 = .ok (.iconst 1, 1) := by decide +kernel
theorem dX9_turn_2 : decode cX9_turn 2 = .ok (.if_icmp .lt 9, 3) := by decide +kernel
theorem dX9_turn_5 : decode cX9_turn 5 = .ok (.iload_n 1, 1) := by decide +kernel
theorem dX9_turn_6 : decode cX9_turn 6 = .ok (.bipush 40, 2) := by decide +kernel
theorem dX9_turn_8 : decode cX9_turn 8 = .ok (.if_icmp .lt 6, 3) := by decide +kernel
theorem dX9_turn_11 : decode cX9_turn 11 = .ok (.bipush (-2), 2) := by decide +kernel
theorem dX9_turn_13 : decode cX9_turn 13 = .ok (.ireturn, 1) := by decide +kernel
theorem dX9_turn_14 : decode cX9_turn 14 = .ok (.iload_n 1, 1) := by decide +kernel
theorem dX9_turn_15 : decode cX9_turn 15 = .ok (.aload_n 0, 1) := by decide +kernel
theorem dX9_turn_16 : decode cX9_turn 16 = .ok (.getfield 10, 3) := by decide +kernel
theorem dX9_turn_19 : decode cX9_turn 19 = .ok (.invokevirtual 63, 3) := by decide +kernel
theorem dX9_turn_22 : decode cX9_turn 22 = .ok (.if_icmp .lt 5, 3) := by decide +kernel
theorem dX9_turn_25 : decode cX9_turn 25 = .ok (.iconst (-1), 1) := by decide +kernel
theorem dX9_turn_26 : decode cX9_turn 26 = .ok (.ireturn, 1) := by decide +kernel
theorem dX9_turn_27 : decode cX9_turn 27 = .ok (.aload_n 0, 1) := by decide +kernel
theorem dX9_turn_28 : decode cX9_turn 28 = .ok (.getfield 16, 3) := by decide +kernel
theorem dX9_turn_31 : decode cX9_turn 31 = .ok (.invokevirtual 73, 3) := by decide +kernel
theorem dX9_turn_34 : decode cX9_turn 34 = .ok (.aload_n 0, 1) := by decide +kernel
theorem dX9_turn_35 : decode cX9_turn 35 = .ok (.getfield 16, 3) := by decide +kernel
theorem dX9_turn_38 : decode cX9_turn 38 = .ok (.aload_n 0, 1) := by decide +kernel
theorem dX9_turn_39 : decode cX9_turn 39 = .ok (.getfield 10, 3) := by decide +kernel
theorem dX9_turn_42 : decode cX9_turn 42 = .ok (.iload_n 1, 1) := by decide +kernel
theorem dX9_turn_43 : decode cX9_turn 43 = .ok (.aload_n 0, 1) := by decide +kernel
theorem dX9_turn_44 : decode cX9_turn 44 = .ok (.getfield 10, 3) := by decide +kernel
theorem dX9_turn_47 : decode cX9_turn 47 = .ok (.invokevirtual 63, 3) := by decide +kernel
theorem dX9_turn_50 : decode cX9_turn 50 = .ok (.invokevirtual 76, 3) := by decide +kernel
theorem dX9_turn_53 : decode cX9_turn 53 = .ok (.aload_n 0, 1) := by decide +kernel
theorem dX9_turn_54 : decode cX9_turn 54 = .ok (.getfield 16, 3) := by decide +kernel
theorem dX9_turn_57 : decode cX9_turn 57 = .ok (.aload_n 0, 1) := by decide +kernel
theorem dX9_turn_58 : decode cX9_turn 58 = .ok (.getfield 10, 3) := by decide +kernel
theorem dX9_turn_61 : decode cX9_turn 61 = .ok (.iconst 0, 1) := by decide +kernel
theorem dX9_turn_62 : decode cX9_turn 62 = .ok (.iload_n 1, 1) := by decide +kernel
theorem dX9_turn_63 : decode cX9_turn 63 = .ok (.invokevirtual 76, 3) := by decide +kernel
theorem dX9_turn_66 : decode cX9_turn 66 = .ok (.aload_n 0, 1) := by decide +kernel
theorem dX9_turn_67 : decode cX9_turn 67 = .ok (.getfield 16, 3) := by decide +kernel
theorem dX9_turn_70 : decode cX9_turn 70 = .ok (.aload_n 0, 1) := by decide +kernel
theorem dX9_turn_71 : decode cX9_turn 71 = .ok (.getfield 10, 3) := by decide +kernel
theorem dX9_turn_74 : decode cX9_turn 74 = .ok (.invokevirtual 90, 3) := by decide +kernel
theorem dX9_turn_77 : decode cX9_turn 77 = .ok (.ifCond .eq 6, 3) := by decide +kernel
theorem dX9_turn_80 : decode cX9_turn 80 = .ok (.bipush (-4), 2) := by decide +kernel
theorem dX9_turn_82 : decode cX9_turn 82 = .ok (.ireturn, 1) := by decide +kernel
theorem dX9_turn_83 : decode cX9_turn 83 = .ok (.aload_n 0, 1) := by decide +kernel
theorem dX9_turn_84 : decode cX9_turn 84 = .ok (.aload_n 0, 1) := by decide +kernel
theorem dX9_turn_85 : decode cX9_turn 85 = .ok (.getfield 16, 3) := by decide +kernel
theorem dX9_turn_88 : decode cX9_turn 88 = .ok (.invokevirtual 59, 3) := by decide +kernel
theorem dX9_turn_91 : decode cX9_turn 91 = .ok (.aload_n 0, 1) := by decide +kernel
theorem dX9_turn_92 : decode cX9_turn 92 = .ok (.getfield 10, 3) := by decide +kernel
theorem dX9_turn_95 : decode cX9_turn 95 = .ok (.iconst 0, 1) := by decide +kernel
theorem dX9_turn_96 : decode cX9_turn 96 = .ok (.invokevirtual 83, 3) := by decide +kernel
theorem dX9_turn_99 : decode cX9_turn 99 = .ok (.ireturn, 1) := by decide +kernel
set_option maxRecDepth 20000 in
theorem ggX9_fold_X8_isFactor : GoodIn wsX9_fold wsX8_isFactor := goodIn_r _ [7, 8, 66, 67] (by decide +kernel) (by decide +kernel)
set_option maxRecDepth 20000 in
theorem gX9_fold_X8_isFactor : GoodIn wsX9_fold (wsV RX9 94 RX8 yX8_isFactor wsX8_isFactor) := goodIn_app (goodIn_of _ (by decide +kernel)) ggX9_fold_X8_isFactor
set_option maxRecDepth 20000 in
theorem ggX9_fold_X8_length : GoodIn wsX9_fold wsX8_length := goodIn_r _ [12, 8, 66, 67] (by decide +kernel) (by decide +kernel)
set_option maxRecDepth 20000 in
theorem gX9_fold_X8_length : GoodIn wsX9_fold (wsV RX9 63 RX8 yX8_length wsX8_length) := goodIn_app (goodIn_of _ (by decide +kernel)) ggX9_fold_X8_length
set_option maxRecDepth 20000 in
theorem ggX9_fold_X8_copyFrom : GoodIn wsX9_fold wsX8_copyFrom := goodIn_r _ [16, 17, 18, 19, 6, 20, 8, 21, 10, 11, 12, 22, 23, 24, 25, 26, 27, 28, 29, 30, 31, 32, 33, 34, 66, 67] (by decide +kernel) (by decide +kernel)
set_option maxRecDepth 20000 in
theorem gX9_fold_X8_copyFrom : GoodIn wsX9_fold (wsV RX9 98 RX8 yX8_copyFrom wsX8_copyFrom) := goodIn_app (goodIn_of _ (by decide +kernel)) ggX9_fold_X8_copyFrom
set_option maxRecDepth 20000 in
theorem ggX9_fold_X8_appendFactor : GoodIn wsX9_fold wsX8_appendFactor := goodIn_r _ [25, 26, 27, 28, 6, 29, 8, 30, 31, 32, 33, 34, 66, 67] (by decide +kernel) (by decide +kernel)
set_option maxRecDepth 20000 in
theorem gX9_fold_X8_appendFactor : GoodIn wsX9_fold (wsV RX9 76 RX8 yX8_appendFactor wsX8_appendFactor) := goodIn_app (goodIn_of _ (by decide +kernel)) ggX9_fold_X8_appendFactor
set_option maxRecDepth 20000 in
theorem ggX9_fold_X9_become : GoodIn wsX9_fold wsX9_become := goodIn_r _ [40, 41, 1, 42, 43, 44, 45, 46, 47, 48, 49, 50, 51, 52, 53, 54, 55, 56, 57, 58, 14, 15, 6, 16, 17, 18, 19, 20, 8, 21, 10, 11, 12, 22, 23, 24, 25, 26, 27, 28, 29, 30, 31, 32, 33, 34, 13, 59, 60, 61, 62, 63, 64, 65, 68, 69, 70, 66, 67] (by decide +kernel) (by decide +kernel)
set_option maxRecDepth 20000 in
theorem gX9_fold_X9_become : GoodIn wsX9_fold (wsV RX9 59 RX9 yX9_become wsX9_become) := goodIn_app (goodIn_of _ (by decide +kernel)) ggX9_fold_X9_become
theorem dX9_fold_0 : decode cX9_fold 0 = .ok (.aload_n 0, 1) := by decide +kernel
theorem dX9_fold_1 : decode cX9_fold 1 = .ok (.getfield 10, 3) := by decide +kernel
theorem dX9_fold_4 : decode cX9_fold 4 = .ok (.iload_n 1, 1) := by decide +kernel
theorem dX9_fold_5 : decode cX9_fold 5 = .ok (.iload_n 2, 1) := by decide +kernel
theorem dX9_fold_6 : decode cX9_fold 6 = .ok (.invokevirtual 94, 3) := by decide +kernel
theorem dX9_fold_9 : decode cX9_fold 9 = .ok (.ifCond .ne 5, 3) := by decide +kernel
theorem dX9_fold_12 : decode cX9_fold 12 = .ok (.iconst (-1), 1) := by decide +kernel
theorem dX9_fold_13 : decode cX9_fold 13 = .ok (.ireturn, 1) := by decide +kernel
theorem dX9_fold_14 : decode cX9_fold 14 = .ok (.aload_n 0, 1) := by decide +kernel
theorem dX9_fold_15 : decode cX9_fold 15 = .ok (.getfield 10, 3) := by decide +kernel
theorem dX9_fold_18 : decode cX9_fold 18 = .ok (.invokevirtual 63, 3) := by decide +kernel
theorem dX9_fold_21 : decode cX9_fold 21 = .ok (.iload_n 2, 1) := by decide +kernel
theorem dX9_fold_22 : decode cX9_fold 22 = .ok (.iload_n 1, 1) := by decide +kernel
theorem dX9_fold_23 : decode cX9_fold 23 = .ok (.isub, 1) := by decide +kernel
theorem dX9_fold_24 : decode cX9_fold 24 = .ok (.iadd, 1) := by decide +kernel
theorem dX9_fold_25 : decode cX9_fold 25 = .ok (.bipush 40, 2) := by decide +kernel
theorem dX9_fold_27 : decode cX9_fold 27 = .ok (.if_icmp .le 6, 3) := by decide +kernel
theorem dX9_fold_30 : decode cX9_fold 30 = .ok (.bipush (-3), 2) := by decide +kernel
theorem dX9_fold_32 : decode cX9_fold 32 = .ok (.ireturn, 1) := by decide +kernel
theorem dX9_fold_33 : decode cX9_fold 33 = .ok (.aload_n 0, 1) := by decide +kernel
theorem dX9_fold_34 : decode cX9_fold 34 = .ok (.getfield 16, 3) := by decide +kernel
theorem dX9_fold_37 : decode cX9_fold 37 = .ok (.aload_n 0, 1) := by decide +kernel
theorem dX9_fold_38 : decode cX9_fold 38 = .ok (.getfield 10, 3) := by decide +kernel
theorem dX9_fold_41 : decode cX9_fold 41 = .ok (.invokevirtual 98, 3) := by decide +kernel
theorem dX9_fold_44 : decode cX9_fold 44 = .ok (.aload_n 0, 1) := by decide +kernel
theorem dX9_fold_45 : decode cX9_fold 45 = .ok (.getfield 16, 3) := by decide +kernel
theorem dX9_fold_48 : decode cX9_fold 48 = .ok (.aload_n 0, 1) := by decide +kernel
theorem dX9_fold_49 : decode cX9_fold 49 = .ok (.getfield 10, 3) := by decide +kernel
theorem dX9_fold_52 : decode cX9_fold 52 = .ok (.iload_n 1, 1) := by decide +kernel
theorem dX9_fold_53 : decode cX9_fold 53 = .ok (.iload_n 2, 1) := by decide +kernel
theorem dX9_fold_54 : decode cX9_fold 54 = .ok (.invokevirtual 76, 3) := by decide +kernel
theorem dX9_fold_57 : decode cX9_fold 57 = .ok (.aload_n 0, 1) := by decide +kernel
theorem dX9_fold_58 : decode cX9_fold 58 = .ok (.aload_n 0, 1) := by decide +kernel
theorem dX9_fold_59 : decode cX9_fold 59 = .ok (.getfield 16, 3) := by decide +kernel
theorem dX9_fold_62 : decode cX9_fold 62 = .ok (.invokevirtual 59, 3) := by decide +kernel
theorem dX9_fold_65 : decode cX9_fold 65 = .ok (.aload_n 0, 1) := by decide +kernel
theorem dX9_fold_66 : decode cX9_fold 66 = .ok (.getfield 10, 3) := by decide +kernel
theorem dX9_fold_69 : decode cX9_fold 69 = .ok (.invokevirtual 63, 3) := by decide +kernel
theorem dX9_fold_72 : decode cX9_fold 72 = .ok (.ireturn, 1) := by decide +kernel
set_option maxRecDepth 20000 in
theorem ggX9_load_X3_read : GoodIn wsX9_load wsX3_read := goodIn_r _ [8, 9, 10, 11, 12, 13, 14, 15, 16, 17, 18, 19, 20, 21, 22, 23, 24, 25, 26, 27, 28, 29, 30, 31, 32, 7, 33, 34, 35, 36, 37, 38, 39, 40, 41, 42, 43, 44, 45, 46, 47, 48, 49, 50, 51, 52, 53, 54, 55, 56, 57, 58, 59, 60, 61, 62, 63, 64, 65, 66, 67, 68, 69, 70, 71, 114, 115, 116, 117, 118, 119, 120, 121] (by decide +kernel) (by decide +kernel)
set_option maxRecDepth 20000 in
theorem gX9_load_X3_read : GoodIn wsX9_load (wsV RX9 101 RX3 yX3_read wsX3_read) := goodIn_app (goodIn_of _ (by decide +kernel)) ggX9_load_X3_read
set_option maxRecDepth 20000 in
theorem ggX9_load_X3_word : GoodIn wsX9_load wsX3_word := goodIn_r _ [75, 9, 114, 115, 116, 117] (by decide +kernel) (by decide +kernel)
set_option maxRecDepth 20000 in
theorem gX9_load_X3_word : GoodIn wsX9_load (wsV RX9 105 RX3 yX3_word wsX3_word) := goodIn_app (goodIn_of _ (by decide +kernel)) ggX9_load_X3_word
set_option maxRecDepth 20000 in
theorem ggX9_load_X9_become : GoodIn wsX9_load wsX9_become := goodIn_r _ [80, 81, 3, 82, 83, 84, 85, 86, 87, 88, 89, 90, 91, 92, 93, 94, 95, 96, 97, 98, 99, 100, 16, 101, 102, 14, 15, 17, 18, 103, 43, 44, 45, 104, 56, 57, 58, 59, 60, 61, 62, 50, 63, 47, 48, 49, 105, 107, 108, 109, 110, 111, 112, 113, 122, 123, 124, 118, 119] (by decide +kernel) (by decide +kernel)
set_option maxRecDepth 20000 in
theorem gX9_load_X9_become : GoodIn wsX9_load (wsV RX9 59 RX9 yX9_become wsX9_become) := goodIn_app (goodIn_of _ (by decide +kernel)) ggX9_load_X9_become
set_option maxRecDepth 20000 in
theorem ggX9_load_X8_length : GoodIn wsX9_load wsX8_length := goodIn_r _ [45, 18, 118, 119] (by decide +kernel) (by decide +kernel)
set_option maxRecDepth 20000 in
theorem gX9_load_X8_length : GoodIn wsX9_load (wsV RX9 63 RX8 yX8_length wsX8_length) := goodIn_app (goodIn_of _ (by decide +kernel)) ggX9_load_X8_length
theorem dX9_load_0 : decode cX9_load 0 = .ok (.aload_n 0, 1) := by decide +kernel
theorem dX9_load_1 : decode cX9_load 1 = .ok (.getfield 43, 3) := by decide +kernel
theorem dX9_load_4 : decode cX9_load 4 = .ok (.aload_n 0, 1) := by decide +kernel
theorem dX9_load_5 : decode cX9_load 5 = .ok (.getfield 36, 3) := by decide +kernel
theorem dX9_load_8 : decode cX9_load 8 = .ok (.invokevirtual 101, 3) := by decide +kernel
theorem dX9_load_11 : decode cX9_load 11 = .ok (.istore_n 1, 1) := by decide +kernel
theorem dX9_load_12 : decode cX9_load 12 = .ok (.iload_n 1, 1) := by decide +kernel
theorem dX9_load_13 : decode cX9_load 13 = .ok (.iconst (-1), 1) := by decide +kernel
theorem dX9_load_14 : decode cX9_load 14 = .ok (.if_icmp .eq 8, 3) := by decide +kernel
theorem dX9_load_17 : decode cX9_load 17 = .ok (.bipush (-100), 2) := by decide +kernel
theorem dX9_load_19 : decode cX9_load 19 = .ok (.iload_n 1, 1) := by decide +kernel
theorem dX9_load_20 : decode cX9_load 20 = .ok (.isub, 1) := by decide +kernel
theorem dX9_load_21 : decode cX9_load 21 = .ok (.ireturn, 1) := by decide +kernel
theorem dX9_load_22 : decode cX9_load 22 = .ok (.aload_n 0, 1) := by decide +kernel
theorem dX9_load_23 : decode cX9_load 23 = .ok (.aload_n 0, 1) := by decide +kernel
theorem dX9_load_24 : decode cX9_load 24 = .ok (.getfield 43, 3) := by decide +kernel
theorem dX9_load_27 : decode cX9_load 27 = .ok (.invokevirtual 105, 3) := by decide +kernel
theorem dX9_load_30 : decode cX9_load 30 = .ok (.invokevirtual 59, 3) := by decide +kernel
theorem dX9_load_33 : decode cX9_load 33 = .ok (.aload_n 0, 1) := by decide +kernel
theorem dX9_load_34 : decode cX9_load 34 = .ok (.getfield 10, 3) := by decide +kernel
theorem dX9_load_37 : decode cX9_load 37 = .ok (.invokevirtual 63, 3) := by decide +kernel
theorem dX9_load_40 : decode cX9_load 40 = .ok (.ireturn, 1) := by decide +kernel
set_option maxRecDepth 20000 in
theorem ggX9_undo_X1_size : GoodIn wsX9_undo wsX1_size := goodIn_r _ [7, 8, 53, 54, 55] (by decide +kernel) (by decide +kernel)
set_option maxRecDepth 20000 in
theorem gX9_undo_X1_size : GoodIn wsX9_undo (wsV RX9 114 RX1 yX1_size wsX1_size) := goodIn_app (goodIn_of _ (by decide +kernel)) ggX9_undo_X1_size
set_option maxRecDepth 20000 in
theorem ggX9_undo_X1_moveLatestInto : GoodIn wsX9_undo wsX1_moveLatestInto := goodIn_r _ [12, 13, 14, 8, 15, 16, 17, 6, 18, 19, 20, 21, 22, 23, 24, 25, 26, 27, 28, 29, 30, 31, 32, 33, 34, 35, 36, 37, 38, 39, 40, 41, 42, 43, 44, 45, 53, 54, 55, 56, 57] (by decide +kernel) (by decide +kernel)
set_option maxRecDepth 20000 in
theorem gX9_undo_X1_moveLatestInto : GoodIn wsX9_undo (wsV RX9 117 RX1 yX1_moveLatestInto wsX1_moveLatestInto) := goodIn_app (goodIn_of _ (by decide +kernel)) ggX9_undo_X1_moveLatestInto
theorem dX9_undo_0 : decode cX9_undo 0 = .ok (.aload_n 0, 1) := by decide +kernel
theorem dX9_undo_1 : decode cX9_undo 1 = .ok (.getfield 29, 3) := by decide +kernel
theorem dX9_undo_4 : decode cX9_undo 4 = .ok (.invokevirtual 114, 3) := by decide +kernel
theorem dX9_undo_7 : decode cX9_undo 7 = .ok (.ifCond .ne 6, 3) := by decide +kernel
theorem dX9_undo_10 : decode cX9_undo 10 = .ok (.bipush (-4), 2) := by decide +kernel
theorem dX9_undo_12 : decode cX9_undo 12 = .ok (.ireturn, 1) := by decide +kernel
theorem dX9_undo_13 : decode cX9_undo 13 = .ok (.aload_n 0, 1) := by decide +kernel
theorem dX9_undo_14 : decode cX9_undo 14 = .ok (.getfield 29, 3) := by decide +kernel
theorem dX9_undo_17 : decode cX9_undo 17 = .ok (.aload_n 0, 1) := by decide +kernel
theorem dX9_undo_18 : decode cX9_undo 18 = .ok (.getfield 10, 3) := by decide +kernel
theorem dX9_undo_21 : decode cX9_undo 21 = .ok (.invokevirtual 117, 3) := by decide +kernel
theorem dX9_undo_24 : decode cX9_undo 24 = .ok (.aload_n 0, 1) := by decide +kernel
theorem dX9_undo_25 : decode cX9_undo 25 = .ok (.getfield 29, 3) := by decide +kernel
theorem dX9_undo_28 : decode cX9_undo 28 = .ok (.invokevirtual 114, 3) := by decide +kernel
theorem dX9_undo_31 : decode cX9_undo 31 = .ok (.ireturn, 1) := by decide +kernel
set_option maxRecDepth 20000 in
theorem ggX9_restore_X9_become : GoodIn wsX9_restore wsX9_become := goodIn_r _ [8, 9, 3, 10, 11, 12, 13, 14, 15, 16, 17, 18, 19, 20, 21, 22, 23, 24, 25, 26, 27, 28, 29, 30, 31, 32, 33, 34, 35, 36, 37, 38, 39, 40, 41, 42, 43, 44, 45, 46, 47, 48, 49, 50, 51, 52, 53, 55, 56, 57, 58, 59, 60, 61, 62, 63, 64, 65, 66] (by decide +kernel) (by decide +kernel)
set_option maxRecDepth 20000 in
theorem gX9_restore_X9_become : GoodIn wsX9_restore (wsV RX9 59 RX9 yX9_become wsX9_become) := goodIn_app (goodIn_of _ (by decide +kernel)) ggX9_restore_X9_become
set_option maxRecDepth 20000 in
theorem ggX9_restore_X8_length : GoodIn wsX9_restore wsX8_length := goodIn_r _ [39, 35, 65, 66] (by decide +kernel) (by decide +kernel)
set_option maxRecDepth 20000 in
theorem gX9_restore_X8_length : GoodIn wsX9_restore (wsV RX9 63 RX8 yX8_length wsX8_length) := goodIn_app (goodIn_of _ (by decide +kernel)) ggX9_restore_X8_length
theorem dX9_restore_0 : decode cX9_restore 0 = .ok (.aload_n 0, 1) := by decide +kernel
theorem dX9_restore_1 : decode cX9_restore 1 = .ok (.getfield 22, 3) := by decide +kernel
theorem dX9_restore_4 : decode cX9_restore 4 = .ok (.ifCond .ne 6, 3) := by decide +kernel
theorem dX9_restore_7 : decode cX9_restore 7 = .ok (.bipush (-4), 2) := by decide +kernel
theorem dX9_restore_9 : decode cX9_restore 9 = .ok (.ireturn, 1) := by decide +kernel
theorem dX9_restore_10 : decode cX9_restore 10 = .ok (.aload_n 0, 1) := by decide +kernel
theorem dX9_restore_11 : decode cX9_restore 11 = .ok (.aload_n 0, 1) := by decide +kernel
theorem dX9_restore_12 : decode cX9_restore 12 = .ok (.getfield 19, 3) := by decide +kernel
theorem dX9_restore_15 : decode cX9_restore 15 = .ok (.invokevirtual 59, 3) := by decide +kernel
theorem dX9_restore_18 : decode cX9_restore 18 = .ok (.aload_n 0, 1) := by decide +kernel
theorem dX9_restore_19 : decode cX9_restore 19 = .ok (.getfield 10, 3) := by decide +kernel
theorem dX9_restore_22 : decode cX9_restore 22 = .ok (.invokevirtual 63, 3) := by decide +kernel
theorem dX9_restore_25 : decode cX9_restore 25 = .ok (.ireturn, 1) := by decide +kernel
set_option maxRecDepth 20000 in
theorem ggX9_at_X8_isPlace : GoodIn wsX9_at wsX8_isPlace := goodIn_r _ [6, 7, 67, 68] (by decide +kernel) (by decide +kernel)
set_option maxRecDepth 20000 in
theorem gX9_at_X8_isPlace : GoodIn wsX9_at (wsV RX9 80 RX8 yX8_isPlace wsX8_isPlace) := goodIn_app (goodIn_of _ (by decide +kernel)) ggX9_at_X8_isPlace
set_option maxRecDepth 20000 in
theorem ggX9_at_X8_letterAt : GoodIn wsX9_at wsX8_letterAt := goodIn_r _ [11, 7, 12, 67, 68] (by decide +kernel) (by decide +kernel)
set_option maxRecDepth 20000 in
theorem gX9_at_X8_letterAt : GoodIn wsX9_at (wsV RX9 83 RX8 yX8_letterAt wsX8_letterAt) := goodIn_app (goodIn_of _ (by decide +kernel)) ggX9_at_X8_letterAt
set_option maxRecDepth 20000 in
theorem ggX9_at_X6_rank : GoodIn wsX9_at wsX6_rank := goodIn_r _ [16, 17, 18, 19, 5, 20, 7, 21, 22, 15, 23, 24, 25, 26, 27, 28, 29, 30, 31, 32, 9, 10, 11, 12, 33, 67, 68] (by decide +kernel) (by decide +kernel)
set_option maxRecDepth 20000 in
theorem gX9_at_X6_rank : GoodIn wsX9_at (va_wsS RX9 120 yX6_rank wsX6_rank) := goodIn_app (goodIn_of _ (by decide +kernel)) ggX9_at_X6_rank
set_option maxRecDepth 20000 in
theorem ggX9_at_X4_over : GoodIn wsX9_at wsX4_over := goodIn_r _ [37, 38, 18, 19, 5, 20, 7, 39, 40, 36, 41, 42, 9, 10, 11, 12, 43, 25, 26, 27, 28, 29, 30, 31, 32, 44, 45, 46, 47, 48, 49, 50, 51, 67, 68] (by decide +kernel) (by decide +kernel)
set_option maxRecDepth 20000 in
theorem gX9_at_X4_over : GoodIn wsX9_at (va_wsS RX9 126 yX4_over wsX4_over) := goodIn_app (goodIn_of _ (by decide +kernel)) ggX9_at_X4_over
set_option maxRecDepth 20000 in
theorem ggX9_at_X5_endingAt : GoodIn wsX9_at wsX5_endingAt := goodIn_r _ [55, 56, 57, 54, 58, 59, 25, 26, 5, 27, 7, 28, 29, 30, 31, 32, 9, 10, 11, 12, 67, 68] (by decide +kernel) (by decide +kernel)
set_option maxRecDepth 20000 in
theorem gX9_at_X5_endingAt : GoodIn wsX9_at (va_wsS RX9 131 yX5_endingAt wsX5_endingAt) := goodIn_app (goodIn_of _ (by decide +kernel)) ggX9_at_X5_endingAt
theorem dX9_at_0 : decode cX9_at 0 = .ok (.aload_n 0, 1) := by decide +kernel
theorem dX9_at_1 : decode cX9_at 1 = .ok (.getfield 10, 3) := by decide +kernel
theorem dX9_at_4 : decode cX9_at 4 = .ok (.iload_n 1, 1) := by decide +kernel
theorem dX9_at_5 : decode cX9_at 5 = .ok (.invokevirtual 80, 3) := by decide +kernel
theorem dX9_at_8 : decode cX9_at 8 = .ok (.ifCond .ne 5, 3) := by decide +kernel
theorem dX9_at_11 : decode cX9_at 11 = .ok (.iconst (-1), 1) := by decide +kernel
theorem dX9_at_12 : decode cX9_at 12 = .ok (.ireturn, 1) := by decide +kernel
theorem dX9_at_13 : decode cX9_at 13 = .ok (.iload_n 2, 1) := by decide +kernel
theorem dX9_at_14 : decode cX9_at 14 = .ok (.tableswitch 68 0 3 #[30, 39, 48, 57], 30) := by decide +kernel
theorem dX9_at_44 : decode cX9_at 44 = .ok (.aload_n 0, 1) := by decide +kernel
theorem dX9_at_45 : decode cX9_at 45 = .ok (.getfield 10, 3) := by decide +kernel
theorem dX9_at_48 : decode cX9_at 48 = .ok (.iload_n 1, 1) := by decide +kernel
theorem dX9_at_49 : decode cX9_at 49 = .ok (.invokevirtual 83, 3) := by decide +kernel
theorem dX9_at_52 : decode cX9_at 52 = .ok (.ireturn, 1) := by decide +kernel
theorem dX9_at_53 : decode cX9_at 53 = .ok (.aload_n 0, 1) := by decide +kernel
theorem dX9_at_54 : decode cX9_at 54 = .ok (.getfield 10, 3) := by decide +kernel
theorem dX9_at_57 : decode cX9_at 57 = .ok (.iload_n 1, 1) := by decide +kernel
theorem dX9_at_58 : decode cX9_at 58 = .ok (.invokestatic 120, 3) := by decide +kernel
theorem dX9_at_61 : decode cX9_at 61 = .ok (.ireturn, 1) := by decide +kernel
theorem dX9_at_62 : decode cX9_at 62 = .ok (.aload_n 0, 1) := by decide +kernel
theorem dX9_at_63 : decode cX9_at 63 = .ok (.getfield 10, 3) := by decide +kernel
theorem dX9_at_66 : decode cX9_at 66 = .ok (.iload_n 1, 1) := by decide +kernel
theorem dX9_at_67 : decode cX9_at 67 = .ok (.invokestatic 126, 3) := by decide +kernel
theorem dX9_at_70 : decode cX9_at 70 = .ok (.ireturn, 1) := by decide +kernel
theorem dX9_at_71 : decode cX9_at 71 = .ok (.aload_n 0, 1) := by decide +kernel
theorem dX9_at_72 : decode cX9_at 72 = .ok (.getfield 10, 3) := by decide +kernel
theorem dX9_at_75 : decode cX9_at 75 = .ok (.iload_n 1, 1) := by decide +kernel
theorem dX9_at_76 : decode cX9_at 76 = .ok (.iconst 1, 1) := by decide +kernel
theorem dX9_at_77 : decode cX9_at 77 = .ok (.iadd, 1) := by decide +kernel
theorem dX9_at_78 : decode cX9_at 78 = .ok (.invokestatic 131, 3) := by decide +kernel
theorem dX9_at_81 : decode cX9_at 81 = .ok (.ireturn, 1) := by decide +kernel
theorem dX9_at_82 : decode cX9_at 82 = .ok (.bipush (-2), 2) := by decide +kernel
theorem dX9_at_84 : decode cX9_at 84 = .ok (.ireturn, 1) := by decide +kernel
set_option maxRecDepth 20000 in
theorem ggX9_border_X8_length : GoodIn wsX9_border wsX8_length := goodIn_r _ [6, 7, 27, 28] (by decide +kernel) (by decide +kernel)
set_option maxRecDepth 20000 in
theorem gX9_border_X8_length : GoodIn wsX9_border (wsV RX9 63 RX8 yX8_length wsX8_length) := goodIn_app (goodIn_of _ (by decide +kernel)) ggX9_border_X8_length
set_option maxRecDepth 20000 in
theorem ggX9_border_X2_rankedBorder : GoodIn wsX9_border wsX2_rankedBorder := goodIn_r _ [11, 12, 13, 10, 14, 15, 16, 17, 5, 18, 7, 19, 27, 28] (by decide +kernel) (by decide +kernel)
set_option maxRecDepth 20000 in
theorem gX9_border_X2_rankedBorder : GoodIn wsX9_border (va_wsS RX9 136 yX2_rankedBorder wsX2_rankedBorder) := goodIn_app (goodIn_of _ (by decide +kernel)) ggX9_border_X2_rankedBorder
theorem dX9_border_0 : decode cX9_border 0 = .ok (.iload_n 1, 1) := by decide +kernel
theorem dX9_border_1 : decode cX9_border 1 = .ok (.iconst 1, 1) := by decide +kernel
theorem dX9_border_2 : decode cX9_border 2 = .ok (.if_icmp .lt 14, 3) := by decide +kernel
theorem dX9_border_5 : decode cX9_border 5 = .ok (.iload_n 1, 1) := by decide +kernel
theorem dX9_border_6 : decode cX9_border 6 = .ok (.aload_n 0, 1) := by decide +kernel
theorem dX9_border_7 : decode cX9_border 7 = .ok (.getfield 10, 3) := by decide +kernel
theorem dX9_border_10 : decode cX9_border 10 = .ok (.invokevirtual 63, 3) := by decide +kernel
theorem dX9_border_13 : decode cX9_border 13 = .ok (.if_icmp .le 5, 3) := by decide +kernel
theorem dX9_border_16 : decode cX9_border 16 = .ok (.iconst (-1), 1) := by decide +kernel
theorem dX9_border_17 : decode cX9_border 17 = .ok (.ireturn, 1) := by decide +kernel
theorem dX9_border_18 : decode cX9_border 18 = .ok (.iload_n 2, 1) := by decide +kernel
theorem dX9_border_19 : decode cX9_border 19 = .ok (.ifCond .ge 6, 3) := by decide +kernel
theorem dX9_border_22 : decode cX9_border 22 = .ok (.bipush (-2), 2) := by decide +kernel
theorem dX9_border_24 : decode cX9_border 24 = .ok (.ireturn, 1) := by decide +kernel
theorem dX9_border_25 : decode cX9_border 25 = .ok (.aload_n 0, 1) := by decide +kernel
theorem dX9_border_26 : decode cX9_border 26 = .ok (.getfield 10, 3) := by decide +kernel
theorem dX9_border_29 : decode cX9_border 29 = .ok (.iload_n 1, 1) := by decide +kernel
theorem dX9_border_30 : decode cX9_border 30 = .ok (.iload_n 2, 1) := by decide +kernel
theorem dX9_border_31 : decode cX9_border 31 = .ok (.invokestatic 136, 3) := by decide +kernel
theorem dX9_border_34 : decode cX9_border 34 = .ok (.ireturn, 1) := by decide +kernel
set_option maxRecDepth 20000 in
theorem ggX9_factor_X8_isFactor : GoodIn wsX9_factor wsX8_isFactor := goodIn_r _ [6, 7, 74, 75] (by decide +kernel) (by decide +kernel)
set_option maxRecDepth 20000 in
theorem gX9_factor_X8_isFactor : GoodIn wsX9_factor (wsV RX9 94 RX8 yX8_isFactor wsX8_isFactor) := goodIn_app (goodIn_of _ (by decide +kernel)) ggX9_factor_X8_isFactor
set_option maxRecDepth 20000 in
theorem ggX9_factor_X0_howMany : GoodIn wsX9_factor wsX0_howMany := goodIn_r _ [11, 12, 13, 14, 5, 15, 7, 16, 17, 18, 19, 20, 21, 22, 23, 24, 25, 26, 27, 28, 74, 75] (by decide +kernel) (by decide +kernel)
set_option maxRecDepth 20000 in
theorem gX9_factor_X0_howMany : GoodIn wsX9_factor (va_wsS RX9 139 yX0_howMany wsX0_howMany) := goodIn_app (goodIn_of _ (by decide +kernel)) ggX9_factor_X0_howMany
set_option maxRecDepth 20000 in
theorem ggX9_factor_X0_first : GoodIn wsX9_factor wsX0_first := goodIn_r _ [31, 16, 17, 18, 5, 19, 20, 21, 22, 23, 24, 25, 26, 27, 7, 28, 74, 75] (by decide +kernel) (by decide +kernel)
set_option maxRecDepth 20000 in
theorem gX9_factor_X0_first : GoodIn wsX9_factor (va_wsS RX9 144 yX0_first wsX0_first) := goodIn_app (goodIn_of _ (by decide +kernel)) ggX9_factor_X0_first
set_option maxRecDepth 20000 in
theorem ggX9_factor_X0_last : GoodIn wsX9_factor wsX0_last := goodIn_r _ [34, 12, 13, 14, 5, 15, 7, 16, 17, 18, 19, 20, 21, 22, 23, 24, 25, 26, 27, 28, 74, 75] (by decide +kernel) (by decide +kernel)
set_option maxRecDepth 20000 in
theorem gX9_factor_X0_last : GoodIn wsX9_factor (va_wsS RX9 147 yX0_last wsX0_last) := goodIn_app (goodIn_of _ (by decide +kernel)) ggX9_factor_X0_last
set_option maxRecDepth 20000 in
theorem ggX9_factor_X0_longestOfClass : GoodIn wsX9_factor wsX0_longestOfClass := goodIn_r _ [37, 38, 21, 22, 23, 12, 13, 14, 5, 15, 7, 16, 17, 18, 19, 20, 24, 25, 26, 27, 28, 74, 75] (by decide +kernel) (by decide +kernel)
set_option maxRecDepth 20000 in
theorem gX9_factor_X0_longestOfClass : GoodIn wsX9_factor (va_wsS RX9 150 yX0_longestOfClass wsX0_longestOfClass) := goodIn_app (goodIn_of _ (by decide +kernel)) ggX9_factor_X0_longestOfClass
set_option maxRecDepth 20000 in
theorem ggX9_factor_X0_shortestOfClass : GoodIn wsX9_factor wsX0_shortestOfClass := goodIn_r _ [41, 42, 43, 10, 44, 45, 46, 22, 47, 12, 13, 14, 5, 15, 7, 16, 17, 18, 19, 20, 21, 23, 24, 25, 26, 27, 28, 74, 75] (by decide +kernel) (by decide +kernel)
set_option maxRecDepth 20000 in
theorem gX9_factor_X0_shortestOfClass : GoodIn wsX9_factor (va_wsS RX9 153 yX0_shortestOfClass wsX0_shortestOfClass) := goodIn_app (goodIn_of _ (by decide +kernel)) ggX9_factor_X0_shortestOfClass
set_option maxRecDepth 20000 in
theorem ggX9_factor_X0_longestOfLink : GoodIn wsX9_factor wsX0_longestOfLink := goodIn_r _ [44, 45, 46, 22, 47, 12, 13, 14, 5, 15, 7, 16, 17, 18, 19, 20, 21, 23, 24, 25, 26, 27, 28, 74, 75] (by decide +kernel) (by decide +kernel)
set_option maxRecDepth 20000 in
theorem gX9_factor_X0_longestOfLink : GoodIn wsX9_factor (va_wsS RX9 156 yX0_longestOfLink wsX0_longestOfLink) := goodIn_app (goodIn_of _ (by decide +kernel)) ggX9_factor_X0_longestOfLink
set_option maxRecDepth 20000 in
theorem ggX9_factor_X2_least : GoodIn wsX9_factor wsX2_least := goodIn_r _ [52, 53, 54, 51, 55, 56, 25, 26, 5, 27, 7, 28, 74, 75] (by decide +kernel) (by decide +kernel)
set_option maxRecDepth 20000 in
theorem gX9_factor_X2_least : GoodIn wsX9_factor (va_wsS RX9 159 yX2_least wsX2_least) := goodIn_app (goodIn_of _ (by decide +kernel)) ggX9_factor_X2_least
set_option maxRecDepth 20000 in
theorem ggX9_factor_X2_longestBorder : GoodIn wsX9_factor wsX2_longestBorder := goodIn_r _ [59, 60, 50, 51, 52, 53, 54, 55, 56, 25, 26, 5, 27, 7, 28, 74, 75] (by decide +kernel) (by decide +kernel)
set_option maxRecDepth 20000 in
theorem gX9_factor_X2_longestBorder : GoodIn wsX9_factor (va_wsS RX9 67 yX2_longestBorder wsX2_longestBorder) := goodIn_app (goodIn_of _ (by decide +kernel)) ggX9_factor_X2_longestBorder
set_option maxRecDepth 20000 in
theorem ggX9_factor_X2_isPrimitive : GoodIn wsX9_factor wsX2_isPrimitive := goodIn_r _ [63, 60, 50, 51, 52, 53, 54, 55, 56, 25, 26, 5, 27, 7, 28, 74, 75] (by decide +kernel) (by decide +kernel)
set_option maxRecDepth 20000 in
theorem gX9_factor_X2_isPrimitive : GoodIn wsX9_factor (va_wsS RX9 162 yX2_isPrimitive wsX2_isPrimitive) := goodIn_app (goodIn_of _ (by decide +kernel)) ggX9_factor_X2_isPrimitive
set_option maxRecDepth 20000 in
theorem ggX9_factor_X2_hundredfoldPower : GoodIn wsX9_factor wsX2_hundredfoldPower := goodIn_r _ [66, 60, 50, 51, 52, 53, 54, 55, 56, 25, 26, 5, 27, 7, 28, 74, 75] (by decide +kernel) (by decide +kernel)
set_option maxRecDepth 20000 in
theorem gX9_factor_X2_hundredfoldPower : GoodIn wsX9_factor (va_wsS RX9 166 yX2_hundredfoldPower wsX2_hundredfoldPower) := goodIn_app (goodIn_of _ (by decide +kernel)) ggX9_factor_X2_hundredfoldPower
theorem dX9_factor_0 : decode cX9_factor 0 = .ok (.aload_n 0, 1) := by decide +kernel
theorem dX9_factor_1 : decode cX9_factor 1 = .ok (.getfield 10, 3) := by decide +kernel
theorem dX9_factor_4 : decode cX9_factor 4 = .ok (.iload_n 1, 1) := by decide +kernel
theorem dX9_factor_5 : decode cX9_factor 5 = .ok (.iload_n 2, 1) := by decide +kernel
theorem dX9_factor_6 : decode cX9_factor 6 = .ok (.invokevirtual 94, 3) := by decide +kernel
theorem dX9_factor_9 : decode cX9_factor 9 = .ok (.ifCond .ne 5, 3) := by decide +kernel
theorem dX9_factor_12 : decode cX9_factor 12 = .ok (.iconst (-1), 1) := by decide +kernel
theorem dX9_factor_13 : decode cX9_factor 13 = .ok (.ireturn, 1) := by decide +kernel
theorem dX9_factor_14 : decode cX9_factor 14 = .ok (.iload_n 2, 1) := by decide +kernel
theorem dX9_factor_15 : decode cX9_factor 15 = .ok (.iload_n 1, 1) := by decide +kernel
theorem dX9_factor_16 : decode cX9_factor 16 = .ok (.isub, 1) := by decide +kernel
theorem dX9_factor_17 : decode cX9_factor 17 = .ok (.istore 4, 2) := by decide +kernel
theorem dX9_factor_19 : decode cX9_factor 19 = .ok (.iload_n 3, 1) := by decide +kernel
theorem dX9_factor_20 : decode cX9_factor 20 = .ok (.tableswitch 170 0 9 #[56, 67, 78, 89, 100, 111, 122, 132, 142, 160], 56) := by decide +kernel
theorem dX9_factor_76 : decode cX9_factor 76 = .ok (.aload_n 0, 1) := by decide +kernel
theorem dX9_factor_77 : decode cX9_factor 77 = .ok (.getfield 10, 3) := by decide +kernel
theorem dX9_factor_80 : decode cX9_factor 80 = .ok (.iload_n 2, 1) := by decide +kernel
theorem dX9_factor_81 : decode cX9_factor 81 = .ok (.iload 4, 2) := by decide +kernel
theorem dX9_factor_83 : decode cX9_factor 83 = .ok (.invokestatic 139, 3) := by decide +kernel
theorem dX9_factor_86 : decode cX9_factor 86 = .ok (.ireturn, 1) := by decide +kernel
theorem dX9_factor_87 : decode cX9_factor 87 = .ok (.aload_n 0, 1) := by decide +kernel
theorem dX9_factor_88 : decode cX9_factor 88 = .ok (.getfield 10, 3) := by decide +kernel
theorem dX9_factor_91 : decode cX9_factor 91 = .ok (.iload_n 2, 1) := by decide +kernel
theorem dX9_factor_92 : decode cX9_factor 92 = .ok (.iload 4, 2) := by decide +kernel
theorem dX9_factor_94 : decode cX9_factor 94 = .ok (.invokestatic 144, 3) := by decide +kernel
theorem dX9_factor_97 : decode cX9_factor 97 = .ok (.ireturn, 1) := by decide +kernel
theorem dX9_factor_98 : decode cX9_factor 98 = .ok (.aload_n 0, 1) := by decide +kernel
theorem dX9_factor_99 : decode cX9_factor 99 = .ok (.getfield 10, 3) := by decide +kernel
theorem dX9_factor_102 : decode cX9_factor 102 = .ok (.iload_n 2, 1) := by decide +kernel
theorem dX9_factor_103 : decode cX9_factor 103 = .ok (.iload 4, 2) := by decide +kernel
theorem dX9_factor_105 : decode cX9_factor 105 = .ok (.invokestatic 147, 3) := by decide +kernel
theorem dX9_factor_108 : decode cX9_factor 108 = .ok (.ireturn, 1) := by decide +kernel
theorem dX9_factor_109 : decode cX9_factor 109 = .ok (.aload_n 0, 1) := by decide +kernel
theorem dX9_factor_110 : decode cX9_factor 110 = .ok (.getfield 10, 3) := by decide +kernel
theorem dX9_factor_113 : decode cX9_factor 113 = .ok (.iload_n 2, 1) := by decide +kernel
theorem dX9_factor_114 : decode cX9_factor 114 = .ok (.iload 4, 2) := by decide +kernel
theorem dX9_factor_116 : decode cX9_factor 116 = .ok (.invokestatic 150, 3) := by decide +kernel
theorem dX9_factor_119 : decode cX9_factor 119 = .ok (.ireturn, 1) := by decide +kernel
theorem dX9_factor_120 : decode cX9_factor 120 = .ok (.aload_n 0, 1) := by decide +kernel
theorem dX9_factor_121 : decode cX9_factor 121 = .ok (.getfield 10, 3) := by decide +kernel
theorem dX9_factor_124 : decode cX9_factor 124 = .ok (.iload_n 2, 1) := by decide +kernel
theorem dX9_factor_125 : decode cX9_factor 125 = .ok (.iload 4, 2) := by decide +kernel
theorem dX9_factor_127 : decode cX9_factor 127 = .ok (.invokestatic 153, 3) := by decide +kernel
theorem dX9_factor_130 : decode cX9_factor 130 = .ok (.ireturn, 1) := by decide +kernel
theorem dX9_factor_131 : decode cX9_factor 131 = .ok (.aload_n 0, 1) := by decide +kernel
theorem dX9_factor_132 : decode cX9_factor 132 = .ok (.getfield 10, 3) := by decide +kernel
theorem dX9_factor_135 : decode cX9_factor 135 = .ok (.iload_n 2, 1) := by decide +kernel
theorem dX9_factor_136 : decode cX9_factor 136 = .ok (.iload 4, 2) := by decide +kernel
theorem dX9_factor_138 : decode cX9_factor 138 = .ok (.invokestatic 156, 3) := by decide +kernel
theorem dX9_factor_141 : decode cX9_factor 141 = .ok (.ireturn, 1) := by decide +kernel
theorem dX9_factor_142 : decode cX9_factor 142 = .ok (.aload_n 0, 1) := by decide +kernel
theorem dX9_factor_143 : decode cX9_factor 143 = .ok (.getfield 10, 3) := by decide +kernel
theorem dX9_factor_146 : decode cX9_factor 146 = .ok (.iload_n 1, 1) := by decide +kernel
theorem dX9_factor_147 : decode cX9_factor 147 = .ok (.iload_n 2, 1) := by decide +kernel
theorem dX9_factor_148 : decode cX9_factor 148 = .ok (.invokestatic 159, 3) := by decide +kernel
theorem dX9_factor_151 : decode cX9_factor 151 = .ok (.ireturn, 1) := by decide +kernel
theorem dX9_factor_152 : decode cX9_factor 152 = .ok (.aload_n 0, 1) := by decide +kernel
theorem dX9_factor_153 : decode cX9_factor 153 = .ok (.getfield 10, 3) := by decide +kernel
theorem dX9_factor_156 : decode cX9_factor 156 = .ok (.iload_n 1, 1) := by decide +kernel
theorem dX9_factor_157 : decode cX9_factor 157 = .ok (.iload_n 2, 1) := by decide +kernel
theorem dX9_factor_158 : decode cX9_factor 158 = .ok (.invokestatic 67, 3) := by decide +kernel
theorem dX9_factor_161 : decode cX9_factor 161 = .ok (.ireturn, 1) := by decide +kernel
theorem dX9_factor_162 : decode cX9_factor 162 = .ok (.aload_n 0, 1) := by decide +kernel
theorem dX9_factor_163 : decode cX9_factor 163 = .ok (.getfield 10, 3) := by decide +kernel
theorem dX9_factor_166 : decode cX9_factor 166 = .ok (.iload_n 1, 1) := by decide +kernel
theorem dX9_factor_167 : decode cX9_factor 167 = .ok (.iload_n 2, 1) := by decide +kernel
theorem dX9_factor_168 : decode cX9_factor 168 = .ok (.invokestatic 162, 3) := by decide +kernel
theorem dX9_factor_171 : decode cX9_factor 171 = .ok (.ifCond .eq 7, 3) := by decide +kernel
theorem dX9_factor_174 : decode cX9_factor 174 = .ok (.iconst 1, 1) := by decide +kernel
theorem dX9_factor_175 : decode cX9_factor 175 = .ok (.goto 4, 3) := by decide +kernel
theorem dX9_factor_178 : decode cX9_factor 178 = .ok (.iconst 0, 1) := by decide +kernel
theorem dX9_factor_179 : decode cX9_factor 179 = .ok (.ireturn, 1) := by decide +kernel
theorem dX9_factor_180 : decode cX9_factor 180 = .ok (.aload_n 0, 1) := by decide +kernel
theorem dX9_factor_181 : decode cX9_factor 181 = .ok (.getfield 10, 3) := by decide +kernel
theorem dX9_factor_184 : decode cX9_factor 184 = .ok (.iload_n 1, 1) := by decide +kernel
theorem dX9_factor_185 : decode cX9_factor 185 = .ok (.iload_n 2, 1) := by decide +kernel
theorem dX9_factor_186 : decode cX9_factor 186 = .ok (.invokestatic 166, 3) := by decide +kernel
theorem dX9_factor_189 : decode cX9_factor 189 = .ok (.ireturn, 1) := by decide +kernel
theorem dX9_factor_190 : decode cX9_factor 190 = .ok (.bipush (-2), 2) := by decide +kernel
theorem dX9_factor_192 : decode cX9_factor 192 = .ok (.ireturn, 1) := by decide +kernel
set_option maxRecDepth 20000 in
theorem ggX9_alike_X8_isPlace : GoodIn wsX9_alike wsX8_isPlace := goodIn_r _ [6, 7, 28, 29] (by decide +kernel) (by decide +kernel)
set_option maxRecDepth 20000 in
theorem gX9_alike_X8_isPlace : GoodIn wsX9_alike (wsV RX9 80 RX8 yX8_isPlace wsX8_isPlace) := goodIn_app (goodIn_of _ (by decide +kernel)) ggX9_alike_X8_isPlace
set_option maxRecDepth 20000 in
theorem ggX9_alike_X8_alikeFrom : GoodIn wsX9_alike wsX8_alikeFrom := goodIn_r _ [11, 7, 12, 13, 14, 15, 16, 17, 18, 5, 19, 20, 28, 29] (by decide +kernel) (by decide +kernel)
set_option maxRecDepth 20000 in
theorem gX9_alike_X8_alikeFrom : GoodIn wsX9_alike (wsV RX9 169 RX8 yX8_alikeFrom wsX8_alikeFrom) := goodIn_app (goodIn_of _ (by decide +kernel)) ggX9_alike_X8_alikeFrom
theorem dX9_alike_0 : decode cX9_alike 0 = .ok (.aload_n 0, 1) := by decide +kernel
theorem dX9_alike_1 : decode cX9_alike 1 = .ok (.getfield 10, 3) := by decide +kernel
theorem dX9_alike_4 : decode cX9_alike 4 = .ok (.iload_n 1, 1) := by decide +kernel
theorem dX9_alike_5 : decode cX9_alike 5 = .ok (.invokevirtual 80, 3) := by decide +kernel
theorem dX9_alike_8 : decode cX9_alike 8 = .ok (.ifCond .eq 14, 3) := by decide +kernel
theorem dX9_alike_11 : decode cX9_alike 11 = .ok (.aload_n 0, 1) := by decide +kernel
theorem dX9_alike_12 : decode cX9_alike 12 = .ok (.getfield 10, 3) := by decide +kernel
theorem dX9_alike_15 : decode cX9_alike 15 = .ok (.iload_n 2, 1) := by decide +kernel
theorem dX9_alike_16 : decode cX9_alike 16 = .ok (.invokevirtual 80, 3) := by decide +kernel
theorem dX9_alike_19 : decode cX9_alike 19 = .ok (.ifCond .ne 5, 3) := by decide +kernel
theorem dX9_alike_22 : decode cX9_alike 22 = .ok (.iconst (-1), 1) := by decide +kernel
theorem dX9_alike_23 : decode cX9_alike 23 = .ok (.ireturn, 1) := by decide +kernel
theorem dX9_alike_24 : decode cX9_alike 24 = .ok (.aload_n 0, 1) := by decide +kernel
theorem dX9_alike_25 : decode cX9_alike 25 = .ok (.getfield 10, 3) := by decide +kernel
theorem dX9_alike_28 : decode cX9_alike 28 = .ok (.iload_n 1, 1) := by decide +kernel
theorem dX9_alike_29 : decode cX9_alike 29 = .ok (.iload_n 2, 1) := by decide +kernel
theorem dX9_alike_30 : decode cX9_alike 30 = .ok (.invokevirtual 169, 3) := by decide +kernel
