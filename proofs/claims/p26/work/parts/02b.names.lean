theorem dX0_unlikeFactors_16 : decode cX0_unlikeFactors 16 = .ok (.istore_n 2, 1) := by decide +kernel
theorem dX0_unlikeFactors_17 : decode cX0_unlikeFactors 17 = .ok (.iinc 3 1, 3) := by decide +kernel
theorem dX0_unlikeFactors_20 : decode cX0_unlikeFactors 20 = .ok (.goto (-16), 3) := by decide +kernel
theorem dX0_unlikeFactors_23 : decode cX0_unlikeFactors 23 = .ok (.iload_n 2, 1) := by decide +kernel
theorem dX0_unlikeFactors_24 : decode cX0_unlikeFactors 24 = .ok (.ireturn, 1) := by decide +kernel
set_option maxRecDepth 20000 in
theorem ggX0_classes_X8_length : GoodIn wsX0_classes wsX8_length := goodIn_r _ [5, 6, 37, 38] (by decide +kernel) (by decide +kernel)
set_option maxRecDepth 20000 in
theorem gX0_classes_X8_length : GoodIn wsX0_classes (wsV RX0 7 RX8 yX8_length wsX8_length) := goodIn_app (goodIn_of _ (by decide +kernel)) ggX0_classes_X8_length
set_option maxRecDepth 20000 in
theorem ggX0_classes_X0_classesEndingFirstAt : GoodIn wsX0_classes wsX0_classesEndingFirstAt := goodIn_r _ [10, 11, 12, 9, 13, 14, 15, 16, 17, 18, 19, 20, 4, 21, 22, 23, 24, 25, 26, 27, 28, 6, 29, 1, 2, 3, 5, 30, 31, 32, 33, 34, 35, 36, 37, 38] (by decide +kernel) (by decide +kernel)
set_option maxRecDepth 20000 in
theorem gX0_classes_X0_classesEndingFirstAt : GoodIn wsX0_classes (va_wsS RX0 38 yX0_classesEndingFirstAt wsX0_classesEndingFirstAt) := goodIn_app (goodIn_of _ (by decide +kernel)) ggX0_classes_X0_classesEndingFirstAt
theorem dX0_classes_0 : decode cX0_classes 0 = .ok (.iconst 0, 1) := by decide +kernel
theorem dX0_classes_1 : decode cX0_classes 1 = .ok (.istore_n 1, 1) := by decide +kernel
theorem dX0_classes_2 : decode cX0_classes 2 = .ok (.iconst 1, 1) := by decide +kernel
theorem dX0_classes_3 : decode cX0_classes 3 = .ok (.istore_n 2, 1) := by decide +kernel
theorem dX0_classes_4 : decode cX0_classes 4 = .ok (.iload_n 2, 1) := by decide +kernel
theorem dX0_classes_5 : decode cX0_classes 5 = .ok (.aload_n 0, 1) := by decide +kernel
theorem dX0_classes_6 : decode cX0_classes 6 = .ok (.invokevirtual 7, 3) := by decide +kernel
theorem dX0_classes_9 : decode cX0_classes 9 = .ok (.if_icmp .gt 17, 3) := by decide +kernel
theorem dX0_classes_12 : decode cX0_classes 12 = .ok (.iload_n 1, 1) := by decide +kernel
theorem dX0_classes_13 : decode cX0_classes 13 = .ok (.aload_n 0, 1) := by decide +kernel
theorem dX0_classes_14 : decode cX0_classes 14 = .ok (.iload_n 2, 1) := by decide +kernel
theorem dX0_classes_15 : decode cX0_classes 15 = .ok (.invokestatic 38, 3) := by decide +kernel
theorem dX0_classes_18 : decode cX0_classes 18 = .ok (.iadd, 1) := by decide +kernel
theorem dX0_classes_19 : decode cX0_classes 19 = .ok (.istore_n 1, 1) := by decide +kernel
theorem dX0_classes_20 : decode cX0_classes 20 = .ok (.iinc 2 1, 3) := by decide +kernel
theorem dX0_classes_23 : decode cX0_classes 23 = .ok (.goto (-19), 3) := by decide +kernel
theorem dX0_classes_26 : decode cX0_classes 26 = .ok (.iload_n 1, 1) := by decide +kernel
theorem dX0_classes_27 : decode cX0_classes 27 = .ok (.ireturn, 1) := by decide +kernel
set_option maxRecDepth 20000 in
theorem ggX0_classesEndingFirstAt_X0_longestKnown : GoodIn wsX0_classesEndingFirstAt wsX0_longestKnown := goodIn_r _ [4, 5, 6, 7, 8, 9, 10, 11, 12, 13, 14, 15, 16, 17, 18, 19, 20, 21, 22, 34, 35] (by decide +kernel) (by decide +kernel)
set_option maxRecDepth 20000 in
theorem gX0_classesEndingFirstAt_X0_longestKnown : GoodIn wsX0_classesEndingFirstAt (va_wsS RX0 31 yX0_longestKnown wsX0_longestKnown) := goodIn_app (goodIn_of _ (by decide +kernel)) ggX0_classesEndingFirstAt_X0_longestKnown
set_option maxRecDepth 20000 in
theorem ggX0_classesEndingFirstAt_X8_length : GoodIn wsX0_classesEndingFirstAt wsX8_length := goodIn_r _ [26, 21, 34, 35] (by decide +kernel) (by decide +kernel)
set_option maxRecDepth 20000 in
theorem gX0_classesEndingFirstAt_X8_length : GoodIn wsX0_classesEndingFirstAt (wsV RX0 7 RX8 yX8_length wsX8_length) := goodIn_app (goodIn_of _ (by decide +kernel)) ggX0_classesEndingFirstAt_X8_length
set_option maxRecDepth 20000 in
theorem ggX0_classesEndingFirstAt_X8_alikeAhead : GoodIn wsX0_classesEndingFirstAt wsX8_alikeAhead := goodIn_r _ [13, 14, 15, 7, 16, 17, 18, 19, 12, 20, 21, 22, 34, 35] (by decide +kernel) (by decide +kernel)
set_option maxRecDepth 20000 in
theorem gX0_classesEndingFirstAt_X8_alikeAhead : GoodIn wsX0_classesEndingFirstAt (wsV RX0 13 RX8 yX8_alikeAhead wsX8_alikeAhead) := goodIn_app (goodIn_of _ (by decide +kernel)) ggX0_classesEndingFirstAt_X8_alikeAhead
set_option maxRecDepth 20000 in
theorem ggX0_classesEndingFirstAt_J13_bitCount_95d88 : GoodIn wsX0_classesEndingFirstAt wsJ13_bitCount_95d88 := goodIn_r _ [30, 31, 32, 33] (by decide +kernel) (by decide +kernel)
set_option maxRecDepth 20000 in
theorem gX0_classesEndingFirstAt_J13_bitCount_95d88 : GoodIn wsX0_classesEndingFirstAt (va_wsS RX0 41 yJ13_bitCount_95d88 wsJ13_bitCount_95d88) := goodIn_app (goodIn_of _ (by decide +kernel)) ggX0_classesEndingFirstAt_J13_bitCount_95d88
theorem dX0_classesEndingFirstAt_0 : decode cX0_classesEndingFirstAt 0 = .ok (.aload_n 0, 1) := by decide +kernel
theorem dX0_classesEndingFirstAt_1 : decode cX0_classesEndingFirstAt 1 = .ok (.iload_n 1, 1) := by decide +kernel
theorem dX0_classesEndingFirstAt_2 : decode cX0_classesEndingFirstAt 2 = .ok (.invokestatic 31, 3) := by decide +kernel
theorem dX0_classesEndingFirstAt_5 : decode cX0_classesEndingFirstAt 5 = .ok (.istore_n 2, 1) := by decide +kernel
theorem dX0_classesEndingFirstAt_6 : decode cX0_classesEndingFirstAt 6 = .ok (.lconst 1, 1) := by decide +kernel
theorem dX0_classesEndingFirstAt_7 : decode cX0_classesEndingFirstAt 7 = .ok (.iload_n 1, 1) := by decide +kernel
theorem dX0_classesEndingFirstAt_8 : decode cX0_classesEndingFirstAt 8 = .ok (.lshl, 1) := by decide +kernel
theorem dX0_classesEndingFirstAt_9 : decode cX0_classesEndingFirstAt 9 = .ok (.lstore_n 3, 1) := by decide +kernel
theorem dX0_classesEndingFirstAt_10 : decode cX0_classesEndingFirstAt 10 = .ok (.iload_n 1, 1) := by decide +kernel
theorem dX0_classesEndingFirstAt_11 : decode cX0_classesEndingFirstAt 11 = .ok (.iconst 1, 1) := by decide +kernel
theorem dX0_classesEndingFirstAt_12 : decode cX0_classesEndingFirstAt 12 = .ok (.iadd, 1) := by decide +kernel
theorem dX0_classesEndingFirstAt_13 : decode cX0_classesEndingFirstAt 13 = .ok (.istore 5, 2) := by decide +kernel
theorem dX0_classesEndingFirstAt_15 : decode cX0_classesEndingFirstAt 15 = .ok (.iload 5, 2) := by decide +kernel
theorem dX0_classesEndingFirstAt_17 : decode cX0_classesEndingFirstAt 17 = .ok (.aload_n 0, 1) := by decide +kernel
theorem dX0_classesEndingFirstAt_18 : decode cX0_classesEndingFirstAt 18 = .ok (.invokevirtual 7, 3) := by decide +kernel
theorem dX0_classesEndingFirstAt_21 : decode cX0_classesEndingFirstAt 21 = .ok (.if_icmp .gt 31, 3) := by decide +kernel
theorem dX0_classesEndingFirstAt_24 : decode cX0_classesEndingFirstAt 24 = .ok (.aload_n 0, 1) := by decide +kernel
theorem dX0_classesEndingFirstAt_25 : decode cX0_classesEndingFirstAt 25 = .ok (.iload_n 1, 1) := by decide +kernel
theorem dX0_classesEndingFirstAt_26 : decode cX0_classesEndingFirstAt 26 = .ok (.iload 5, 2) := by decide +kernel
theorem dX0_classesEndingFirstAt_28 : decode cX0_classesEndingFirstAt 28 = .ok (.invokevirtual 13, 3) := by decide +kernel
theorem dX0_classesEndingFirstAt_31 : decode cX0_classesEndingFirstAt 31 = .ok (.istore 6, 2) := by decide +kernel
theorem dX0_classesEndingFirstAt_33 : decode cX0_classesEndingFirstAt 33 = .ok (.iload 6, 2) := by decide +kernel
theorem dX0_classesEndingFirstAt_35 : decode cX0_classesEndingFirstAt 35 = .ok (.iload_n 2, 1) := by decide +kernel
theorem dX0_classesEndingFirstAt_36 : decode cX0_classesEndingFirstAt 36 = .ok (.if_icmp .le 10, 3) := by decide +kernel
theorem dX0_classesEndingFirstAt_39 : decode cX0_classesEndingFirstAt 39 = .ok (.lload_n 3, 1) := by decide +kernel
theorem dX0_classesEndingFirstAt_40 : decode cX0_classesEndingFirstAt 40 = .ok (.lconst 1, 1) := by decide +kernel
theorem dX0_classesEndingFirstAt_41 : decode cX0_classesEndingFirstAt 41 = .ok (.iload 6, 2) := by decide +kernel
theorem dX0_classesEndingFirstAt_43 : decode cX0_classesEndingFirstAt 43 = .ok (.lshl, 1) := by decide +kernel
theorem dX0_classesEndingFirstAt_44 : decode cX0_classesEndingFirstAt 44 = .ok (.lor, 1) := by decide +kernel
theorem dX0_classesEndingFirstAt_45 : decode cX0_classesEndingFirstAt 45 = .ok (.lstore_n 3, 1) := by decide +kernel
theorem dX0_classesEndingFirstAt_46 : decode cX0_classesEndingFirstAt 46 = .ok (.iinc 5 1, 3) := by decide +kernel
theorem dX0_classesEndingFirstAt_49 : decode cX0_classesEndingFirstAt 49 = .ok (.goto (-34), 3) := by decide +kernel
theorem dX0_classesEndingFirstAt_52 : decode cX0_classesEndingFirstAt 52 = .ok (.lload_n 3, 1) := by decide +kernel
theorem dX0_classesEndingFirstAt_53 : decode cX0_classesEndingFirstAt 53 = .ok (.invokestatic 41, 3) := by decide +kernel
theorem dX0_classesEndingFirstAt_56 : decode cX0_classesEndingFirstAt 56 = .ok (.ireturn, 1) := by decide +kernel
set_option maxRecDepth 20000 in
theorem ggX1_init_X8_init : GoodIn wsX1_init wsX8_init := goodIn_r _ [11, 12, 2, 3, 13, 14, 15, 19, 20] (by decide +kernel) (by decide +kernel)
set_option maxRecDepth 20000 in
theorem gX1_init_X8_init_n24 : GoodIn wsX1_init (wsX8_init) := ggX1_init_X8_init
theorem dX1_init_0 : decode cX1_init 0 = .ok (.aload_n 0, 1) := by decide +kernel
theorem dX1_init_1 : decode cX1_init 1 = .ok (.invokespecial 3, 3) := by decide +kernel
theorem dX1_init_4 : decode cX1_init 4 = .ok (.aload_n 0, 1) := by decide +kernel
theorem dX1_init_5 : decode cX1_init 5 = .ok (.iconst 4, 1) := by decide +kernel
theorem dX1_init_6 : decode cX1_init 6 = .ok (.anewarray 9, 3) := by decide +kernel
theorem dX1_init_9 : decode cX1_init 9 = .ok (.putfield 11, 3) := by decide +kernel
theorem dX1_init_12 : decode cX1_init 12 = .ok (.aload_n 0, 1) := by decide +kernel
theorem dX1_init_13 : decode cX1_init 13 = .ok (.iconst 0, 1) := by decide +kernel
theorem dX1_init_14 : decode cX1_init 14 = .ok (.putfield 17, 3) := by decide +kernel
theorem dX1_init_17 : decode cX1_init 17 = .ok (.aload_n 0, 1) := by decide +kernel
theorem dX1_init_18 : decode cX1_init 18 = .ok (.iconst 0, 1) := by decide +kernel
theorem dX1_init_19 : decode cX1_init 19 = .ok (.putfield 21, 3) := by decide +kernel
theorem dX1_init_22 : decode cX1_init 22 = .ok (.iconst 0, 1) := by decide +kernel
theorem dX1_init_23 : decode cX1_init 23 = .ok (.istore_n 1, 1) := by decide +kernel
theorem dX1_init_24 : decode cX1_init 24 = .ok (.iload_n 1, 1) := by decide +kernel
theorem dX1_init_25 : decode cX1_init 25 = .ok (.aload_n 0, 1) := by decide +kernel
theorem dX1_init_26 : decode cX1_init 26 = .ok (.getfield 11, 3) := by decide +kernel
theorem dX1_init_29 : decode cX1_init 29 = .ok (.arraylength, 1) := by decide +kernel
theorem dX1_init_30 : decode cX1_init 30 = .ok (.if_icmp .ge 22, 3) := by decide +kernel
theorem dX1_init_33 : decode cX1_init 33 = .ok (.aload_n 0, 1) := by decide +kernel
theorem dX1_init_34 : decode cX1_init 34 = .ok (.getfield 11, 3) := by decide +kernel
theorem dX1_init_37 : decode cX1_init 37 = .ok (.iload_n 1, 1) := by decide +kernel
theorem dX1_init_38 : decode cX1_init 38 = .ok (.new 9, 3) := by decide +kernel
theorem dX1_init_41 : decode cX1_init 41 = .ok (.dup, 1) := by decide +kernel
theorem dX1_init_42 : decode cX1_init 42 = .ok (.invokespecial 24, 3) := by decide +kernel
theorem dX1_init_45 : decode cX1_init 45 = .ok (.aastore, 1) := by decide +kernel
theorem dX1_init_46 : decode cX1_init 46 = .ok (.iinc 1 1, 3) := by decide +kernel
theorem dX1_init_49 : decode cX1_init 49 = .ok (.goto (-25), 3) := by decide +kernel
theorem dX1_init_52 : decode cX1_init 52 = .ok (.return_, 1) := by decide +kernel
theorem dX1_size_0 : decode cX1_size 0 = .ok (.aload_n 0, 1) := by decide +kernel
theorem dX1_size_1 : decode cX1_size 1 = .ok (.getfield 21, 3) := by decide +kernel
theorem dX1_size_4 : decode cX1_size 4 = .ok (.ireturn, 1) := by decide +kernel
set_option maxRecDepth 20000 in
theorem ggX1_record_X1_stateAt : GoodIn wsX1_record wsX1_stateAt := goodIn_r _ [12, 2, 40, 41, 42] (by decide +kernel) (by decide +kernel)
set_option maxRecDepth 20000 in
theorem gX1_record_X1_stateAt : GoodIn wsX1_record (wsV RX1 25 RX1 yX1_stateAt wsX1_stateAt) := goodIn_app (goodIn_of _ (by decide +kernel)) ggX1_record_X1_stateAt
set_option maxRecDepth 20000 in
theorem ggX1_record_X8_copyFrom : GoodIn wsX1_record wsX8_copyFrom := goodIn_r _ [17, 18, 19, 20, 16, 21, 22, 23, 24, 25, 26, 27, 28, 29, 30, 31, 32, 33, 34, 35, 36, 37, 38, 39, 43, 44] (by decide +kernel) (by decide +kernel)
set_option maxRecDepth 20000 in
theorem gX1_record_X8_copyFrom : GoodIn wsX1_record (wsV RX1 29 RX8 yX8_copyFrom wsX8_copyFrom) := goodIn_app (goodIn_of _ (by decide +kernel)) ggX1_record_X8_copyFrom
theorem dX1_record_0 : decode cX1_record 0 = .ok (.aload_n 0, 1) := by decide +kernel
theorem dX1_record_1 : decode cX1_record 1 = .ok (.aload_n 0, 1) := by decide +kernel
theorem dX1_record_2 : decode cX1_record 2 = .ok (.getfield 17, 3) := by decide +kernel
theorem dX1_record_5 : decode cX1_record 5 = .ok (.invokevirtual 25, 3) := by decide +kernel
theorem dX1_record_8 : decode cX1_record 8 = .ok (.astore_n 2, 1) := by decide +kernel
theorem dX1_record_9 : decode cX1_record 9 = .ok (.aload_n 2, 1) := by decide +kernel
theorem dX1_record_10 : decode cX1_record 10 = .ok (.ifnull 54, 3) := by decide +kernel
theorem dX1_record_13 : decode cX1_record 13 = .ok (.aload_n 2, 1) := by decide +kernel
theorem dX1_record_14 : decode cX1_record 14 = .ok (.aload_n 1, 1) := by decide +kernel
theorem dX1_record_15 : decode cX1_record 15 = .ok (.invokevirtual 29, 3) := by decide +kernel
theorem dX1_record_18 : decode cX1_record 18 = .ok (.aload_n 0, 1) := by decide +kernel
theorem dX1_record_19 : decode cX1_record 19 = .ok (.aload_n 0, 1) := by decide +kernel
theorem dX1_record_20 : decode cX1_record 20 = .ok (.getfield 17, 3) := by decide +kernel
theorem dX1_record_23 : decode cX1_record 23 = .ok (.iconst 1, 1) := by decide +kernel
theorem dX1_record_24 : decode cX1_record 24 = .ok (.iadd, 1) := by decide +kernel
theorem dX1_record_25 : decode cX1_record 25 = .ok (.aload_n 0, 1) := by decide +kernel
theorem dX1_record_26 : decode cX1_record 26 = .ok (.getfield 11, 3) := by decide +kernel
theorem dX1_record_29 : decode cX1_record 29 = .ok (.arraylength, 1) := by decide +kernel
theorem dX1_record_30 : decode cX1_record 30 = .ok (.if_icmp .ge 12, 3) := by decide +kernel
theorem dX1_record_33 : decode cX1_record 33 = .ok (.aload_n 0, 1) := by decide +kernel
theorem dX1_record_34 : decode cX1_record 34 = .ok (.getfield 17, 3) := by decide +kernel
theorem dX1_record_37 : decode cX1_record 37 = .ok (.iconst 1, 1) := by decide +kernel
theorem dX1_record_38 : decode cX1_record 38 = .ok (.iadd, 1) := by decide +kernel
theorem dX1_record_39 : decode cX1_record 39 = .ok (.goto 4, 3) := by decide +kernel
theorem dX1_record_42 : decode cX1_record 42 = .ok (.iconst 0, 1) := by decide +kernel
theorem dX1_record_43 : decode cX1_record 43 = .ok (.putfield 17, 3) := by decide +kernel
theorem dX1_record_46 : decode cX1_record 46 = .ok (.aload_n 0, 1) := by decide +kernel
theorem dX1_record_47 : decode cX1_record 47 = .ok (.aload_n 0, 1) := by decide +kernel
theorem dX1_record_48 : decode cX1_record 48 = .ok (.getfield 21, 3) := by decide +kernel
theorem dX1_record_51 : decode cX1_record 51 = .ok (.iconst 1, 1) := by decide +kernel
theorem dX1_record_52 : decode cX1_record 52 = .ok (.iadd, 1) := by decide +kernel
theorem dX1_record_53 : decode cX1_record 53 = .ok (.aload_n 0, 1) := by decide +kernel
theorem dX1_record_54 : decode cX1_record 54 = .ok (.getfield 11, 3) := by decide +kernel
theorem dX1_record_57 : decode cX1_record 57 = .ok (.arraylength, 1) := by decide +kernel
theorem dX1_record_58 : decode cX1_record 58 = .ok (.invokestatic 33, 3) := by decide +kernel
theorem dX1_record_61 : decode cX1_record 61 = .ok (.putfield 21, 3) := by decide +kernel
theorem dX1_record_64 : decode cX1_record 64 = .ok (.return_, 1) := by decide +kernel
set_option maxRecDepth 20000 in
theorem ggX1_moveLatestInto_X1_stateAt : GoodIn wsX1_moveLatestInto wsX1_stateAt := goodIn_r _ [8, 2, 36, 37, 38] (by decide +kernel) (by decide +kernel)
set_option maxRecDepth 20000 in
theorem gX1_moveLatestInto_X1_stateAt : GoodIn wsX1_moveLatestInto (wsV RX1 25 RX1 yX1_stateAt wsX1_stateAt) := goodIn_app (goodIn_of _ (by decide +kernel)) ggX1_moveLatestInto_X1_stateAt
set_option maxRecDepth 20000 in
theorem ggX1_moveLatestInto_X8_copyFrom : GoodIn wsX1_moveLatestInto wsX8_copyFrom := goodIn_r _ [13, 14, 15, 16, 12, 17, 18, 19, 20, 21, 22, 23, 24, 25, 26, 27, 28, 29, 30, 31, 32, 33, 34, 35, 39, 40] (by decide +kernel) (by decide +kernel)
set_option maxRecDepth 20000 in
theorem gX1_moveLatestInto_X8_copyFrom : GoodIn wsX1_moveLatestInto (wsV RX1 29 RX8 yX8_copyFrom wsX8_copyFrom) := goodIn_app (goodIn_of _ (by decide +kernel)) ggX1_moveLatestInto_X8_copyFrom
theorem dX1_moveLatestInto_0 : decode cX1_moveLatestInto 0 = .ok (.aload_n 0, 1) := by decide +kernel
theorem dX1_moveLatestInto_1 : decode cX1_moveLatestInto 1 = .ok (.getfield 17, 3) := by decide +kernel
theorem dX1_moveLatestInto_4 : decode cX1_moveLatestInto 4 = .ok (.ifCond .le 12, 3) := by decide +kernel
theorem dX1_moveLatestInto_7 : decode cX1_moveLatestInto 7 = .ok (.aload_n 0, 1) := by decide +kernel
theorem dX1_moveLatestInto_8 : decode cX1_moveLatestInto 8 = .ok (.getfield 17, 3) := by decide +kernel
theorem dX1_moveLatestInto_11 : decode cX1_moveLatestInto 11 = .ok (.iconst 1, 1) := by decide +kernel
theorem dX1_moveLatestInto_12 : decode cX1_moveLatestInto 12 = .ok (.isub, 1) := by decide +kernel
theorem dX1_moveLatestInto_13 : decode cX1_moveLatestInto 13 = .ok (.goto 10, 3) := by decide +kernel
theorem dX1_moveLatestInto_16 : decode cX1_moveLatestInto 16 = .ok (.aload_n 0, 1) := by decide +kernel
theorem dX1_moveLatestInto_17 : decode cX1_moveLatestInto 17 = .ok (.getfield 11, 3) := by decide +kernel
theorem dX1_moveLatestInto_20 : decode cX1_moveLatestInto 20 = .ok (.arraylength, 1) := by decide +kernel
theorem dX1_moveLatestInto_21 : decode cX1_moveLatestInto 21 = .ok (.iconst 1, 1) := by decide +kernel
theorem dX1_moveLatestInto_22 : decode cX1_moveLatestInto 22 = .ok (.isub, 1) := by decide +kernel
theorem dX1_moveLatestInto_23 : decode cX1_moveLatestInto 23 = .ok (.istore_n 2, 1) := by decide +kernel
theorem dX1_moveLatestInto_24 : decode cX1_moveLatestInto 24 = .ok (.aload_n 0, 1) := by decide +kernel
theorem dX1_moveLatestInto_25 : decode cX1_moveLatestInto 25 = .ok (.iload_n 2, 1) := by decide +kernel
theorem dX1_moveLatestInto_26 : decode cX1_moveLatestInto 26 = .ok (.invokevirtual 25, 3) := by decide +kernel
theorem dX1_moveLatestInto_29 : decode cX1_moveLatestInto 29 = .ok (.astore_n 3, 1) := by decide +kernel
theorem dX1_moveLatestInto_30 : decode cX1_moveLatestInto 30 = .ok (.aload_n 0, 1) := by decide +kernel
theorem dX1_moveLatestInto_31 : decode cX1_moveLatestInto 31 = .ok (.getfield 21, 3) := by decide +kernel
theorem dX1_moveLatestInto_34 : decode cX1_moveLatestInto 34 = .ok (.ifCond .le 27, 3) := by decide +kernel
theorem dX1_moveLatestInto_37 : decode cX1_moveLatestInto 37 = .ok (.aload_n 3, 1) := by decide +kernel
theorem dX1_moveLatestInto_38 : decode cX1_moveLatestInto 38 = .ok (.ifnull 23, 3) := by decide +kernel
theorem dX1_moveLatestInto_41 : decode cX1_moveLatestInto 41 = .ok (.aload_n 1, 1) := by decide +kernel
theorem dX1_moveLatestInto_42 : decode cX1_moveLatestInto 42 = .ok (.aload_n 3, 1) := by decide +kernel
theorem dX1_moveLatestInto_43 : decode cX1_moveLatestInto 43 = .ok (.invokevirtual 29, 3) := by decide +kernel
theorem dX1_moveLatestInto_46 : decode cX1_moveLatestInto 46 = .ok (.aload_n 0, 1) := by decide +kernel
theorem dX1_moveLatestInto_47 : decode cX1_moveLatestInto 47 = .ok (.iload_n 2, 1) := by decide +kernel
theorem dX1_moveLatestInto_48 : decode cX1_moveLatestInto 48 = .ok (.putfield 17, 3) := by decide +kernel
theorem dX1_moveLatestInto_51 : decode cX1_moveLatestInto 51 = .ok (.aload_n 0, 1) := by decide +kernel
theorem dX1_moveLatestInto_52 : decode cX1_moveLatestInto 52 = .ok (.dup, 1) := by decide +kernel
theorem dX1_moveLatestInto_53 : decode cX1_moveLatestInto 53 = .ok (.getfield 21, 3) := by decide +kernel
theorem dX1_moveLatestInto_56 : decode cX1_moveLatestInto 56 = .ok (.iconst 1, 1) := by decide +kernel
theorem dX1_moveLatestInto_57 : decode cX1_moveLatestInto 57 = .ok (.isub, 1) := by decide +kernel
theorem dX1_moveLatestInto_58 : decode cX1_moveLatestInto 58 = .ok (.putfield 21, 3) := by decide +kernel
theorem dX1_moveLatestInto_61 : decode cX1_moveLatestInto 61 = .ok (.return_, 1) := by decide +kernel
theorem dX1_stateAt_0 : decode cX1_stateAt 0 = .ok (.iload_n 1, 1) := by decide +kernel
theorem dX1_stateAt_1 : decode cX1_stateAt 1 = .ok (.ifCond .lt 21, 3) := by decide +kernel
theorem dX1_stateAt_4 : decode cX1_stateAt 4 = .ok (.iload_n 1, 1) := by decide +kernel
theorem dX1_stateAt_5 : decode cX1_stateAt 5 = .ok (.aload_n 0, 1) := by decide +kernel
theorem dX1_stateAt_6 : decode cX1_stateAt 6 = .ok (.getfield 11, 3) := by decide +kernel
theorem dX1_stateAt_9 : decode cX1_stateAt 9 = .ok (.arraylength, 1) := by decide +kernel
theorem dX1_stateAt_10 : decode cX1_stateAt 10 = .ok (.if_icmp .ge 12, 3) := by decide +kernel
theorem dX1_stateAt_13 : decode cX1_stateAt 13 = .ok (.aload_n 0, 1) := by decide +kernel
theorem dX1_stateAt_14 : decode cX1_stateAt 14 = .ok (.getfield 11, 3) := by decide +kernel
theorem dX1_stateAt_17 : decode cX1_stateAt 17 = .ok (.iload_n 1, 1) := by decide +kernel
theorem dX1_stateAt_18 : decode cX1_stateAt 18 = .ok (.aaload, 1) := by decide +kernel
theorem dX1_stateAt_19 : decode cX1_stateAt 19 = .ok (.goto 4, 3) := by decide +kernel
theorem dX1_stateAt_22 : decode cX1_stateAt 22 = .ok (.aconst_null, 1) := by decide +kernel
theorem dX1_stateAt_23 : decode cX1_stateAt 23 = .ok (.areturn, 1) := by decide +kernel
set_option maxRecDepth 20000 in
theorem ggX2_least_X2_isPeriod : GoodIn wsX2_least wsX2_isPeriod := goodIn_r _ [4, 5, 6, 7, 8, 9, 10, 11, 12, 13] (by decide +kernel) (by decide +kernel)
set_option maxRecDepth 20000 in
theorem gX2_least_X2_isPeriod : GoodIn wsX2_least (va_wsS RX2 9 yX2_isPeriod wsX2_isPeriod) := goodIn_app (goodIn_of _ (by decide +kernel)) ggX2_least_X2_isPeriod
theorem dX2_least_0 : decode cX2_least 0 = .ok (.iload_n 2, 1) := by decide +kernel
theorem dX2_least_1 : decode cX2_least 1 = .ok (.iload_n 1, 1) := by decide +kernel
theorem dX2_least_2 : decode cX2_least 2 = .ok (.isub, 1) := by decide +kernel
theorem dX2_least_3 : decode cX2_least 3 = .ok (.istore_n 3, 1) := by decide +kernel
theorem dX2_least_4 : decode cX2_least 4 = .ok (.iconst 1, 1) := by decide +kernel
theorem dX2_least_5 : decode cX2_least 5 = .ok (.istore 4, 2) := by decide +kernel
theorem dX2_least_7 : decode cX2_least 7 = .ok (.iload 4, 2) := by decide +kernel
theorem dX2_least_9 : decode cX2_least 9 = .ok (.iload_n 3, 1) := by decide +kernel
theorem dX2_least_10 : decode cX2_least 10 = .ok (.if_icmp .ge 23, 3) := by decide +kernel
theorem dX2_least_13 : decode cX2_least 13 = .ok (.aload_n 0, 1) := by decide +kernel
theorem dX2_least_14 : decode cX2_least 14 = .ok (.iload_n 1, 1) := by decide +kernel
theorem dX2_least_15 : decode cX2_least 15 = .ok (.iload_n 2, 1) := by decide +kernel
theorem dX2_least_16 : decode cX2_least 16 = .ok (.iload 4, 2) := by decide +kernel
theorem dX2_least_18 : decode cX2_least 18 = .ok (.invokestatic 9, 3) := by decide +kernel
theorem dX2_least_21 : decode cX2_least 21 = .ok (.ifCond .eq 6, 3) := by decide +kernel
theorem dX2_least_24 : decode cX2_least 24 = .ok (.iload 4, 2) := by decide +kernel
theorem dX2_least_26 : decode cX2_least 26 = .ok (.ireturn, 1) := by decide +kernel
theorem dX2_least_27 : decode cX2_least 27 = .ok (.iinc 4 1, 3) := by decide +kernel
theorem dX2_least_30 : decode cX2_least 30 = .ok (.goto (-23), 3) := by decide +kernel
theorem dX2_least_33 : decode cX2_least 33 = .ok (.iload_n 3, 1) := by decide +kernel
theorem dX2_least_34 : decode cX2_least 34 = .ok (.ireturn, 1) := by decide +kernel
set_option maxRecDepth 20000 in
theorem ggX2_longestBorder_X2_least : GoodIn wsX2_longestBorder wsX2_least := goodIn_r _ [4, 5, 6, 3, 7, 8, 9, 10, 11, 12, 13, 14, 15, 16] (by decide +kernel) (by decide +kernel)
set_option maxRecDepth 20000 in
theorem gX2_longestBorder_X2_least : GoodIn wsX2_longestBorder (va_wsS RX2 15 yX2_least wsX2_least) := goodIn_app (goodIn_of _ (by decide +kernel)) ggX2_longestBorder_X2_least
theorem dX2_longestBorder_0 : decode cX2_longestBorder 0 = .ok (.iload_n 2, 1) := by decide +kernel
theorem dX2_longestBorder_1 : decode cX2_longestBorder 1 = .ok (.iload_n 1, 1) := by decide +kernel
theorem dX2_longestBorder_2 : decode cX2_longestBorder 2 = .ok (.isub, 1) := by decide +kernel
theorem dX2_longestBorder_3 : decode cX2_longestBorder 3 = .ok (.aload_n 0, 1) := by decide +kernel
theorem dX2_longestBorder_4 : decode cX2_longestBorder 4 = .ok (.iload_n 1, 1) := by decide +kernel
theorem dX2_longestBorder_5 : decode cX2_longestBorder 5 = .ok (.iload_n 2, 1) := by decide +kernel
theorem dX2_longestBorder_6 : decode cX2_longestBorder 6 = .ok (.invokestatic 15, 3) := by decide +kernel
theorem dX2_longestBorder_9 : decode cX2_longestBorder 9 = .ok (.isub, 1) := by decide +kernel
theorem dX2_longestBorder_10 : decode cX2_longestBorder 10 = .ok (.ireturn, 1) := by decide +kernel
set_option maxRecDepth 20000 in
theorem ggX2_rankedBorder_X2_isPeriod : GoodIn wsX2_rankedBorder wsX2_isPeriod := goodIn_r _ [4, 5, 6, 7, 8, 9, 10, 11, 12, 13] (by decide +kernel) (by decide +kernel)
set_option maxRecDepth 20000 in
theorem gX2_rankedBorder_X2_isPeriod : GoodIn wsX2_rankedBorder (va_wsS RX2 9 yX2_isPeriod wsX2_isPeriod) := goodIn_app (goodIn_of _ (by decide +kernel)) ggX2_rankedBorder_X2_isPeriod
theorem dX2_rankedBorder_0 : decode cX2_rankedBorder 0 = .ok (.iconst 0, 1) := by decide +kernel
theorem dX2_rankedBorder_1 : decode cX2_rankedBorder 1 = .ok (.istore_n 3, 1) := by decide +kernel
theorem dX2_rankedBorder_2 : decode cX2_rankedBorder 2 = .ok (.iconst 1, 1) := by decide +kernel
theorem dX2_rankedBorder_3 : decode cX2_rankedBorder 3 = .ok (.istore 4, 2) := by decide +kernel
theorem dX2_rankedBorder_5 : decode cX2_rankedBorder 5 = .ok (.iload 4, 2) := by decide +kernel
theorem dX2_rankedBorder_7 : decode cX2_rankedBorder 7 = .ok (.iload_n 1, 1) := by decide +kernel
theorem dX2_rankedBorder_8 : decode cX2_rankedBorder 8 = .ok (.if_icmp .ge 33, 3) := by decide +kernel
theorem dX2_rankedBorder_11 : decode cX2_rankedBorder 11 = .ok (.aload_n 0, 1) := by decide +kernel
theorem dX2_rankedBorder_12 : decode cX2_rankedBorder 12 = .ok (.iconst 0, 1) := by decide +kernel
theorem dX2_rankedBorder_13 : decode cX2_rankedBorder 13 = .ok (.iload_n 1, 1) := by decide +kernel
theorem dX2_rankedBorder_14 : decode cX2_rankedBorder 14 = .ok (.iload 4, 2) := by decide +kernel
theorem dX2_rankedBorder_16 : decode cX2_rankedBorder 16 = .ok (.invokestatic 9, 3) := by decide +kernel
theorem dX2_rankedBorder_19 : decode cX2_rankedBorder 19 = .ok (.ifCond .eq 16, 3) := by decide +kernel
theorem dX2_rankedBorder_22 : decode cX2_rankedBorder 22 = .ok (.iload_n 3, 1) := by decide +kernel
theorem dX2_rankedBorder_23 : decode cX2_rankedBorder 23 = .ok (.iload_n 2, 1) := by decide +kernel
theorem dX2_rankedBorder_24 : decode cX2_rankedBorder 24 = .ok (.if_icmp .ne 8, 3) := by decide +kernel
theorem dX2_rankedBorder_27 : decode cX2_rankedBorder 27 = .ok (.iload_n 1, 1) := by decide +kernel
theorem dX2_rankedBorder_28 : decode cX2_rankedBorder 28 = .ok (.iload 4, 2) := by decide +kernel
theorem dX2_rankedBorder_30 : decode cX2_rankedBorder 30 = .ok (.isub, 1) := by decide +kernel
theorem dX2_rankedBorder_31 : decode cX2_rankedBorder 31 = .ok (.ireturn, 1) := by decide +kernel
theorem dX2_rankedBorder_32 : decode cX2_rankedBorder 32 = .ok (.iinc 3 1, 3) := by decide +kernel
theorem dX2_rankedBorder_35 : decode cX2_rankedBorder 35 = .ok (.iinc 4 1, 3) := by decide +kernel
theorem dX2_rankedBorder_38 : decode cX2_rankedBorder 38 = .ok (.goto (-33), 3) := by decide +kernel
theorem dX2_rankedBorder_41 : decode cX2_rankedBorder 41 = .ok (.bipush (-4), 2) := by decide +kernel
theorem dX2_rankedBorder_43 : decode cX2_rankedBorder 43 = .ok (.ireturn, 1) := by decide +kernel
set_option maxRecDepth 20000 in
theorem ggX2_isPrimitive_X2_least : GoodIn wsX2_isPrimitive wsX2_least := goodIn_r _ [4, 5, 6, 3, 7, 8, 9, 10, 11, 12, 13, 14, 15, 16] (by decide +kernel) (by decide +kernel)
set_option maxRecDepth 20000 in
theorem gX2_isPrimitive_X2_least : GoodIn wsX2_isPrimitive (va_wsS RX2 15 yX2_least wsX2_least) := goodIn_app (goodIn_of _ (by decide +kernel)) ggX2_isPrimitive_X2_least
theorem dX2_isPrimitive_0 : decode cX2_isPrimitive 0 = .ok (.iload_n 2, 1) := by decide +kernel
theorem dX2_isPrimitive_1 : decode cX2_isPrimitive 1 = .ok (.iload_n 1, 1) := by decide +kernel
theorem dX2_isPrimitive_2 : decode cX2_isPrimitive 2 = .ok (.isub, 1) := by decide +kernel
theorem dX2_isPrimitive_3 : decode cX2_isPrimitive 3 = .ok (.istore_n 3, 1) := by decide +kernel
theorem dX2_isPrimitive_4 : decode cX2_isPrimitive 4 = .ok (.aload_n 0, 1) := by decide +kernel
theorem dX2_isPrimitive_5 : decode cX2_isPrimitive 5 = .ok (.iload_n 1, 1) := by decide +kernel
theorem dX2_isPrimitive_6 : decode cX2_isPrimitive 6 = .ok (.iload_n 2, 1) := by decide +kernel
theorem dX2_isPrimitive_7 : decode cX2_isPrimitive 7 = .ok (.invokestatic 15, 3) := by decide +kernel
theorem dX2_isPrimitive_10 : decode cX2_isPrimitive 10 = .ok (.istore 4, 2) := by decide +kernel
theorem dX2_isPrimitive_12 : decode cX2_isPrimitive 12 = .ok (.iload 4, 2) := by decide +kernel
theorem dX2_isPrimitive_14 : decode cX2_isPrimitive 14 = .ok (.ifCond .le 16, 3) := by decide +kernel
theorem dX2_isPrimitive_17 : decode cX2_isPrimitive 17 = .ok (.iload 4, 2) := by decide +kernel
theorem dX2_isPrimitive_19 : decode cX2_isPrimitive 19 = .ok (.iload_n 3, 1) := by decide +kernel
theorem dX2_isPrimitive_20 : decode cX2_isPrimitive 20 = .ok (.if_icmp .eq 10, 3) := by decide +kernel
theorem dX2_isPrimitive_23 : decode cX2_isPrimitive 23 = .ok (.iload_n 3, 1) := by decide +kernel
theorem dX2_isPrimitive_24 : decode cX2_isPrimitive 24 = .ok (.iload 4, 2) := by decide +kernel
theorem dX2_isPrimitive_26 : decode cX2_isPrimitive 26 = .ok (.irem, 1) := by decide +kernel
theorem dX2_isPrimitive_27 : decode cX2_isPrimitive 27 = .ok (.ifCond .eq 7, 3) := by decide +kernel
theorem dX2_isPrimitive_30 : decode cX2_isPrimitive 30 = .ok (.iconst 1, 1) := by decide +kernel
theorem dX2_isPrimitive_31 : decode cX2_isPrimitive 31 = .ok (.goto 4, 3) := by decide +kernel
theorem dX2_isPrimitive_34 : decode cX2_isPrimitive 34 = .ok (.iconst 0, 1) := by decide +kernel
theorem dX2_isPrimitive_35 : decode cX2_isPrimitive 35 = .ok (.ireturn, 1) := by decide +kernel
set_option maxRecDepth 20000 in
theorem ggX2_hundredfoldPower_X2_least : GoodIn wsX2_hundredfoldPower wsX2_least := goodIn_r _ [4, 5, 6, 3, 7, 8, 9, 10, 11, 12, 13, 14, 15, 16] (by decide +kernel) (by decide +kernel)
set_option maxRecDepth 20000 in
theorem gX2_hundredfoldPower_X2_least : GoodIn wsX2_hundredfoldPower (va_wsS RX2 15 yX2_least wsX2_least) := goodIn_app (goodIn_of _ (by decide +kernel)) ggX2_hundredfoldPower_X2_least
theorem dX2_hundredfoldPower_0 : decode cX2_hundredfoldPower 0 = .ok (.aload_n 0, 1) := by decide +kernel
theorem dX2_hundredfoldPower_1 : decode cX2_hundredfoldPower 1 = .ok (.iload_n 1, 1) := by decide +kernel
theorem dX2_hundredfoldPower_2 : decode cX2_hundredfoldPower 2 = .ok (.iload_n 2, 1) := by decide +kernel
theorem dX2_hundredfoldPower_3 : decode cX2_hundredfoldPower 3 = .ok (.invokestatic 15, 3) := by decide +kernel
theorem dX2_hundredfoldPower_6 : decode cX2_hundredfoldPower 6 = .ok (.istore_n 3, 1) := by decide +kernel
theorem dX2_hundredfoldPower_7 : decode cX2_hundredfoldPower 7 = .ok (.iload_n 3, 1) := by decide +kernel
theorem dX2_hundredfoldPower_8 : decode cX2_hundredfoldPower 8 = .ok (.ifCond .le 14, 3) := by decide +kernel
theorem dX2_hundredfoldPower_11 : decode cX2_hundredfoldPower 11 = .ok (.bipush 100, 2) := by decide +kernel
theorem dX2_hundredfoldPower_13 : decode cX2_hundredfoldPower 13 = .ok (.iload_n 2, 1) := by decide +kernel
theorem dX2_hundredfoldPower_14 : decode cX2_hundredfoldPower 14 = .ok (.iload_n 1, 1) := by decide +kernel
theorem dX2_hundredfoldPower_15 : decode cX2_hundredfoldPower 15 = .ok (.isub, 1) := by decide +kernel
theorem dX2_hundredfoldPower_16 : decode cX2_hundredfoldPower 16 = .ok (.imul, 1) := by decide +kernel
theorem dX2_hundredfoldPower_17 : decode cX2_hundredfoldPower 17 = .ok (.iload_n 3, 1) := by decide +kernel
theorem dX2_hundredfoldPower_18 : decode cX2_hundredfoldPower 18 = .ok (.idiv, 1) := by decide +kernel
theorem dX2_hundredfoldPower_19 : decode cX2_hundredfoldPower 19 = .ok (.goto 4, 3) := by decide +kernel
theorem dX2_hundredfoldPower_22 : decode cX2_hundredfoldPower 22 = .ok (.iconst 0, 1) := by decide +kernel
theorem dX2_hundredfoldPower_23 : decode cX2_hundredfoldPower 23 = .ok (.ireturn, 1) := by decide +kernel
set_option maxRecDepth 20000 in
theorem ggX2_isPeriod_X8_letterAt : GoodIn wsX2_isPeriod wsX8_letterAt := goodIn_r _ [5, 6, 7, 8, 9] (by decide +kernel) (by decide +kernel)
set_option maxRecDepth 20000 in
theorem gX2_isPeriod_X8_letterAt : GoodIn wsX2_isPeriod (wsV RX2 19 RX8 yX8_letterAt wsX8_letterAt) := goodIn_app (goodIn_of _ (by decide +kernel)) ggX2_isPeriod_X8_letterAt
theorem dX2_isPeriod_0 : decode cX2_isPeriod 0 = .ok (.iload_n 1, 1) := by decide +kernel
theorem dX2_isPeriod_1 : decode cX2_isPeriod 1 = .ok (.istore 4, 2) := by decide +kernel
theorem dX2_isPeriod_3 : decode cX2_isPeriod 3 = .ok (.iload 4, 2) := by decide +kernel
theorem dX2_isPeriod_5 : decode cX2_isPeriod 5 = .ok (.iload_n 3, 1) := by decide +kernel
theorem dX2_isPeriod_6 : decode cX2_isPeriod 6 = .ok (.iadd, 1) := by decide +kernel
theorem dX2_isPeriod_7 : decode cX2_isPeriod 7 = .ok (.iload_n 2, 1) := by decide +kernel
theorem dX2_isPeriod_8 : decode cX2_isPeriod 8 = .ok (.if_icmp .ge 28, 3) := by decide +kernel
theorem dX2_isPeriod_11 : decode cX2_isPeriod 11 = .ok (.aload_n 0, 1) := by decide +kernel
theorem dX2_isPeriod_12 : decode cX2_isPeriod 12 = .ok (.iload 4, 2) := by decide +kernel
theorem dX2_isPeriod_14 : decode cX2_isPeriod 14 = .ok (.invokevirtual 19, 3) := by decide +kernel
theorem dX2_isPeriod_17 : decode cX2_isPeriod 17 = .ok (.aload_n 0, 1) := by decide +kernel
theorem dX2_isPeriod_18 : decode cX2_isPeriod 18 = .ok (.iload 4, 2) := by decide +kernel
theorem dX2_isPeriod_20 : decode cX2_isPeriod 20 = .ok (.iload_n 3, 1) := by decide +kernel
theorem dX2_isPeriod_21 : decode cX2_isPeriod 21 = .ok (.iadd, 1) := by decide +kernel
theorem dX2_isPeriod_22 : decode cX2_isPeriod 22 = .ok (.invokevirtual 19, 3) := by decide +kernel
theorem dX2_isPeriod_25 : decode cX2_isPeriod 25 = .ok (.if_icmp .eq 5, 3) := by decide +kernel
theorem dX2_isPeriod_28 : decode cX2_isPeriod 28 = .ok (.iconst 0, 1) := by decide +kernel
theorem dX2_isPeriod_29 : decode cX2_isPeriod 29 = .ok (.ireturn, 1) := by decide +kernel
theorem dX2_isPeriod_30 : decode cX2_isPeriod 30 = .ok (.iinc 4 1, 3) := by decide +kernel
theorem dX2_isPeriod_33 : decode cX2_isPeriod 33 = .ok (.goto (-30), 3) := by decide +kernel
theorem dX2_isPeriod_36 : decode cX2_isPeriod 36 = .ok (.iconst 1, 1) := by decide +kernel
theorem dX2_isPeriod_37 : decode cX2_isPeriod 37 = .ok (.ireturn, 1) := by decide +kernel
set_option maxRecDepth 20000 in
theorem ggX3_init_X8_init : GoodIn wsX3_init wsX8_init := goodIn_r _ [12, 13, 2, 3, 14, 15, 16, 17, 18] (by decide +kernel) (by decide +kernel)
set_option maxRecDepth 20000 in
theorem gX3_init_X8_init_n11 : GoodIn wsX3_init (wsX8_init) := ggX3_init_X8_init
theorem dX3_init_0 : decode cX3_init 0 = .ok (.aload_n 0, 1) := by decide +kernel
theorem dX3_init_1 : decode cX3_init 1 = .ok (.invokespecial 3, 3) := by decide +kernel
theorem dX3_init_4 : decode cX3_init 4 = .ok (.aload_n 0, 1) := by decide +kernel
theorem dX3_init_5 : decode cX3_init 5 = .ok (.new 9, 3) := by decide +kernel
theorem dX3_init_8 : decode cX3_init 8 = .ok (.dup, 1) := by decide +kernel
theorem dX3_init_9 : decode cX3_init 9 = .ok (.invokespecial 11, 3) := by decide +kernel
theorem dX3_init_12 : decode cX3_init 12 = .ok (.putfield 12, 3) := by decide +kernel
theorem dX3_init_15 : decode cX3_init 15 = .ok (.aload_n 0, 1) := by decide +kernel
theorem dX3_init_16 : decode cX3_init 16 = .ok (.iconst 0, 1) := by decide +kernel
theorem dX3_init_17 : decode cX3_init 17 = .ok (.putfield 18, 3) := by decide +kernel
theorem dX3_init_20 : decode cX3_init 20 = .ok (.aload_n 0, 1) := by decide +kernel
theorem dX3_init_21 : decode cX3_init 21 = .ok (.iconst 0, 1) := by decide +kernel
theorem dX3_init_22 : decode cX3_init 22 = .ok (.putfield 22, 3) := by decide +kernel
theorem dX3_init_25 : decode cX3_init 25 = .ok (.aload_n 0, 1) := by decide +kernel
theorem dX3_init_26 : decode cX3_init 26 = .ok (.iconst 0, 1) := by decide +kernel
theorem dX3_init_27 : decode cX3_init 27 = .ok (.putfield 26, 3) := by decide +kernel
theorem dX3_init_30 : decode cX3_init 30 = .ok (.return_, 1) := by decide +kernel
theorem dX3_word_0 : decode cX3_word 0 = .ok (.aload_n 0, 1) := by decide +kernel
theorem dX3_word_1 : decode cX3_word 1 = .ok (.getfield 12, 3) := by decide +kernel
theorem dX3_word_4 : decode cX3_word 4 = .ok (.areturn, 1) := by decide +kernel
set_option maxRecDepth 20000 in
theorem ggX3_read_X8_clear : GoodIn wsX3_read wsX8_clear := goodIn_r _ [9, 10, 69, 70] (by decide +kernel) (by decide +kernel)
set_option maxRecDepth 20000 in
theorem gX3_read_X8_clear : GoodIn wsX3_read (wsV RX3 29 RX8 yX8_clear wsX8_clear) := goodIn_app (goodIn_of _ (by decide +kernel)) ggX3_read_X8_clear
set_option maxRecDepth 20000 in
theorem ggX3_read_X7_length : GoodIn wsX3_read wsX7_length := goodIn_r _ [15, 16, 71, 72] (by decide +kernel) (by decide +kernel)
set_option maxRecDepth 20000 in
theorem gX3_read_X7_length : GoodIn wsX3_read (wsV RX3 32 RX7 yX7_length wsX7_length) := goodIn_app (goodIn_of _ (by decide +kernel)) ggX3_read_X7_length
set_option maxRecDepth 20000 in
theorem ggX3_read_X7_characterAt : GoodIn wsX3_read wsX7_characterAt := goodIn_r _ [20, 16, 21, 71, 72] (by decide +kernel) (by decide +kernel)
set_option maxRecDepth 20000 in
theorem gX3_read_X7_characterAt : GoodIn wsX3_read (wsV RX3 38 RX7 yX7_characterAt wsX7_characterAt) := goodIn_app (goodIn_of _ (by decide +kernel)) ggX3_read_X7_characterAt
set_option maxRecDepth 20000 in
theorem ggX3_read_X3_takes : GoodIn wsX3_read wsX3_takes := goodIn_r _ [26, 27, 28, 29, 25, 30, 1, 3, 2, 4, 31, 32, 33, 8, 34, 10, 35, 36, 37, 38, 39, 40, 41, 42, 43, 44, 45, 46, 47, 48, 49, 50, 51, 52, 53, 54, 55, 56, 57, 58, 59, 60, 61, 62, 63, 64, 65, 66, 67, 68, 69, 70] (by decide +kernel) (by decide +kernel)
set_option maxRecDepth 20000 in
theorem gX3_read_X3_takes : GoodIn wsX3_read (wsV RX3 42 RX3 yX3_takes wsX3_takes) := goodIn_app (goodIn_of _ (by decide +kernel)) ggX3_read_X3_takes
set_option maxRecDepth 20000 in
theorem ggX3_read_X8_length : GoodIn wsX3_read wsX8_length := goodIn_r _ [38, 10, 69, 70] (by decide +kernel) (by decide +kernel)
set_option maxRecDepth 20000 in
theorem gX3_read_X8_length : GoodIn wsX3_read (wsV RX3 46 RX8 yX8_length wsX8_length) := goodIn_app (goodIn_of _ (by decide +kernel)) ggX3_read_X8_length
theorem dX3_read_0 : decode cX3_read 0 = .ok (.aload_n 0, 1) := by decide +kernel
theorem dX3_read_1 : decode cX3_read 1 = .ok (.getfield 12, 3) := by decide +kernel
theorem dX3_read_4 : decode cX3_read 4 = .ok (.invokevirtual 29, 3) := by decide +kernel
theorem dX3_read_7 : decode cX3_read 7 = .ok (.aload_n 0, 1) := by decide +kernel
theorem dX3_read_8 : decode cX3_read 8 = .ok (.iconst 0, 1) := by decide +kernel
theorem dX3_read_9 : decode cX3_read 9 = .ok (.putfield 18, 3) := by decide +kernel
theorem dX3_read_12 : decode cX3_read 12 = .ok (.aload_n 0, 1) := by decide +kernel
theorem dX3_read_13 : decode cX3_read 13 = .ok (.iconst 0, 1) := by decide +kernel
theorem dX3_read_14 : decode cX3_read 14 = .ok (.putfield 22, 3) := by decide +kernel
theorem dX3_read_17 : decode cX3_read 17 = .ok (.aload_n 0, 1) := by decide +kernel
theorem dX3_read_18 : decode cX3_read 18 = .ok (.iconst 0, 1) := by decide +kernel
theorem dX3_read_19 : decode cX3_read 19 = .ok (.putfield 26, 3) := by decide +kernel
theorem dX3_read_22 : decode cX3_read 22 = .ok (.iconst 0, 1) := by decide +kernel
theorem dX3_read_23 : decode cX3_read 23 = .ok (.istore_n 2, 1) := by decide +kernel
theorem dX3_read_24 : decode cX3_read 24 = .ok (.iload_n 2, 1) := by decide +kernel
theorem dX3_read_25 : decode cX3_read 25 = .ok (.aload_n 1, 1) := by decide +kernel
theorem dX3_read_26 : decode cX3_read 26 = .ok (.invokevirtual 32, 3) := by decide +kernel
theorem dX3_read_29 : decode cX3_read 29 = .ok (.if_icmp .ge 23, 3) := by decide +kernel
theorem dX3_read_32 : decode cX3_read 32 = .ok (.aload_n 0, 1) := by decide +kernel
theorem dX3_read_33 : decode cX3_read 33 = .ok (.aload_n 1, 1) := by decide +kernel
theorem dX3_read_34 : decode cX3_read 34 = .ok (.iload_n 2, 1) := by decide +kernel
theorem dX3_read_35 : decode cX3_read 35 = .ok (.invokevirtual 38, 3) := by decide +kernel
theorem dX3_read_38 : decode cX3_read 38 = .ok (.invokevirtual 42, 3) := by decide +kernel
theorem dX3_read_41 : decode cX3_read 41 = .ok (.ifCond .ne 5, 3) := by decide +kernel
theorem dX3_read_44 : decode cX3_read 44 = .ok (.iload_n 2, 1) := by decide +kernel
theorem dX3_read_45 : decode cX3_read 45 = .ok (.ireturn, 1) := by decide +kernel
theorem dX3_read_46 : decode cX3_read 46 = .ok (.iinc 2 1, 3) := by decide +kernel
theorem dX3_read_49 : decode cX3_read 49 = .ok (.goto (-25), 3) := by decide +kernel
theorem dX3_read_52 : decode cX3_read 52 = .ok (.aload_n 0, 1) := by decide +kernel
theorem dX3_read_53 : decode cX3_read 53 = .ok (.getfield 22, 3) := by decide +kernel
theorem dX3_read_56 : decode cX3_read 56 = .ok (.ifCond .ne 13, 3) := by decide +kernel
theorem dX3_read_59 : decode cX3_read 59 = .ok (.aload_n 0, 1) := by decide +kernel
theorem dX3_read_60 : decode cX3_read 60 = .ok (.getfield 12, 3) := by decide +kernel
theorem dX3_read_63 : decode cX3_read 63 = .ok (.invokevirtual 46, 3) := by decide +kernel
theorem dX3_read_66 : decode cX3_read 66 = .ok (.ifCond .ne 10, 3) := by decide +kernel
theorem dX3_read_69 : decode cX3_read 69 = .ok (.aload_n 1, 1) := by decide +kernel
theorem dX3_read_70 : decode cX3_read 70 = .ok (.invokevirtual 32, 3) := by decide +kernel
theorem dX3_read_73 : decode cX3_read 73 = .ok (.goto 4, 3) := by decide +kernel
theorem dX3_read_76 : decode cX3_read 76 = .ok (.iconst (-1), 1) := by decide +kernel
theorem dX3_read_77 : decode cX3_read 77 = .ok (.ireturn, 1) := by decide +kernel
set_option maxRecDepth 20000 in
theorem ggX3_takes_X3_takesLetter : GoodIn wsX3_takes wsX3_takesLetter := goodIn_r _ [5, 6, 7, 8, 9, 10, 11, 12, 13, 14, 15, 16, 17, 18, 19, 20, 21, 22, 23, 24, 46, 47, 48, 49, 50, 51] (by decide +kernel) (by decide +kernel)
set_option maxRecDepth 20000 in
theorem gX3_takes_X3_takesLetter : GoodIn wsX3_takes (wsV RX3 47 RX3 yX3_takesLetter wsX3_takesLetter) := goodIn_app (goodIn_of _ (by decide +kernel)) ggX3_takes_X3_takesLetter
set_option maxRecDepth 20000 in
theorem ggX3_takes_X3_takesTimes : GoodIn wsX3_takes wsX3_takesTimes := goodIn_r _ [28, 6, 8, 9, 16, 17, 18, 13, 19, 15, 29, 30, 31, 32, 33, 34, 35, 36, 24, 37, 21, 22, 23, 46, 47, 48, 49, 50, 51] (by decide +kernel) (by decide +kernel)
set_option maxRecDepth 20000 in
theorem gX3_takes_X3_takesTimes : GoodIn wsX3_takes (wsV RX3 51 RX3 yX3_takesTimes wsX3_takesTimes) := goodIn_app (goodIn_of _ (by decide +kernel)) ggX3_takes_X3_takesTimes
set_option maxRecDepth 20000 in
theorem ggX3_takes_X3_opensGroup : GoodIn wsX3_takes wsX3_opensGroup := goodIn_r _ [41, 7, 6, 8, 9, 16, 17, 18, 13, 19, 15, 46, 47, 48, 49, 50, 51] (by decide +kernel) (by decide +kernel)
set_option maxRecDepth 20000 in
theorem gX3_takes_X3_opensGroup : GoodIn wsX3_takes (wsV RX3 54 RX3 yX3_opensGroup wsX3_opensGroup) := goodIn_app (goodIn_of _ (by decide +kernel)) ggX3_takes_X3_opensGroup
set_option maxRecDepth 20000 in
theorem ggX3_takes_X3_closesGroup : GoodIn wsX3_takes wsX3_closesGroup := goodIn_r _ [45, 7, 6, 8, 9, 16, 17, 18, 13, 19, 15, 46, 47, 48, 49, 50, 51] (by decide +kernel) (by decide +kernel)
set_option maxRecDepth 20000 in
theorem gX3_takes_X3_closesGroup : GoodIn wsX3_takes (wsV RX3 58 RX3 yX3_closesGroup wsX3_closesGroup) := goodIn_app (goodIn_of _ (by decide +kernel)) ggX3_takes_X3_closesGroup
theorem dX3_takes_0 : decode cX3_takes 0 = .ok (.iload_n 1, 1) := by decide +kernel
theorem dX3_takes_1 : decode cX3_takes 1 = .ok (.bipush 97, 2) := by decide +kernel
theorem dX3_takes_3 : decode cX3_takes 3 = .ok (.if_icmp .lt 18, 3) := by decide +kernel
theorem dX3_takes_6 : decode cX3_takes 6 = .ok (.iload_n 1, 1) := by decide +kernel
theorem dX3_takes_7 : decode cX3_takes 7 = .ok (.bipush 122, 2) := by decide +kernel
theorem dX3_takes_9 : decode cX3_takes 9 = .ok (.if_icmp .gt 12, 3) := by decide +kernel
theorem dX3_takes_12 : decode cX3_takes 12 = .ok (.aload_n 0, 1) := by decide +kernel
theorem dX3_takes_13 : decode cX3_takes 13 = .ok (.iload_n 1, 1) := by decide +kernel
theorem dX3_takes_14 : decode cX3_takes 14 = .ok (.bipush 97, 2) := by decide +kernel
theorem dX3_takes_16 : decode cX3_takes 16 = .ok (.isub, 1) := by decide +kernel
theorem dX3_takes_17 : decode cX3_takes 17 = .ok (.invokevirtual 47, 3) := by decide +kernel
theorem dX3_takes_20 : decode cX3_takes 20 = .ok (.ireturn, 1) := by decide +kernel
theorem dX3_takes_21 : decode cX3_takes 21 = .ok (.iload_n 1, 1) := by decide +kernel
theorem dX3_takes_22 : decode cX3_takes 22 = .ok (.bipush 50, 2) := by decide +kernel
theorem dX3_takes_24 : decode cX3_takes 24 = .ok (.if_icmp .lt 18, 3) := by decide +kernel
theorem dX3_takes_27 : decode cX3_takes 27 = .ok (.iload_n 1, 1) := by decide +kernel
theorem dX3_takes_28 : decode cX3_takes 28 = .ok (.bipush 57, 2) := by decide +kernel
theorem dX3_takes_30 : decode cX3_takes 30 = .ok (.if_icmp .gt 12, 3) := by decide +kernel
theorem dX3_takes_33 : decode cX3_takes 33 = .ok (.aload_n 0, 1) := by decide +kernel
theorem dX3_takes_34 : decode cX3_takes 34 = .ok (.iload_n 1, 1) := by decide +kernel
theorem dX3_takes_35 : decode cX3_takes 35 = .ok (.bipush 48, 2) := by decide +kernel
theorem dX3_takes_37 : decode cX3_takes 37 = .ok (.isub, 1) := by decide +kernel
theorem dX3_takes_38 : decode cX3_takes 38 = .ok (.invokevirtual 51, 3) := by decide +kernel
theorem dX3_takes_41 : decode cX3_takes 41 = .ok (.ireturn, 1) := by decide +kernel
theorem dX3_takes_42 : decode cX3_takes 42 = .ok (.iload_n 1, 1) := by decide +kernel
theorem dX3_takes_43 : decode cX3_takes 43 = .ok (.bipush 40, 2) := by decide +kernel
theorem dX3_takes_45 : decode cX3_takes 45 = .ok (.if_icmp .ne 8, 3) := by decide +kernel
theorem dX3_takes_48 : decode cX3_takes 48 = .ok (.aload_n 0, 1) := by decide +kernel
theorem dX3_takes_49 : decode cX3_takes 49 = .ok (.invokevirtual 54, 3) := by decide +kernel
theorem dX3_takes_52 : decode cX3_takes 52 = .ok (.ireturn, 1) := by decide +kernel
theorem dX3_takes_53 : decode cX3_takes 53 = .ok (.iload_n 1, 1) := by decide +kernel
theorem dX3_takes_54 : decode cX3_takes 54 = .ok (.bipush 41, 2) := by decide +kernel
theorem dX3_takes_56 : decode cX3_takes 56 = .ok (.if_icmp .ne 14, 3) := by decide +kernel
theorem dX3_takes_59 : decode cX3_takes 59 = .ok (.aload_n 0, 1) := by decide +kernel
theorem dX3_takes_60 : decode cX3_takes 60 = .ok (.invokevirtual 58, 3) := by decide +kernel
theorem dX3_takes_63 : decode cX3_takes 63 = .ok (.ifCond .eq 7, 3) := by decide +kernel
theorem dX3_takes_66 : decode cX3_takes 66 = .ok (.iconst 1, 1) := by decide +kernel
theorem dX3_takes_67 : decode cX3_takes 67 = .ok (.goto 4, 3) := by decide +kernel
theorem dX3_takes_70 : decode cX3_takes 70 = .ok (.iconst 0, 1) := by decide +kernel
theorem dX3_takes_71 : decode cX3_takes 71 = .ok (.ireturn, 1) := by decide +kernel
set_option maxRecDepth 20000 in
theorem ggX3_takesLetter_X8_isFull : GoodIn wsX3_takesLetter wsX8_isFull := goodIn_r _ [9, 10, 24, 25] (by decide +kernel) (by decide +kernel)
set_option maxRecDepth 20000 in
theorem gX3_takesLetter_X8_isFull : GoodIn wsX3_takesLetter (wsV RX3 61 RX8 yX8_isFull wsX8_isFull) := goodIn_app (goodIn_of _ (by decide +kernel)) ggX3_takesLetter_X8_isFull
set_option maxRecDepth 20000 in
theorem ggX3_takesLetter_X8_length : GoodIn wsX3_takesLetter wsX8_length := goodIn_r _ [14, 10, 24, 25] (by decide +kernel) (by decide +kernel)
set_option maxRecDepth 20000 in
theorem gX3_takesLetter_X8_length : GoodIn wsX3_takesLetter (wsV RX3 46 RX8 yX8_length wsX8_length) := goodIn_app (goodIn_of _ (by decide +kernel)) ggX3_takesLetter_X8_length
set_option maxRecDepth 20000 in
theorem ggX3_takesLetter_X8_append : GoodIn wsX3_takesLetter wsX8_append := goodIn_r _ [18, 10, 19, 24, 25] (by decide +kernel) (by decide +kernel)
set_option maxRecDepth 20000 in
theorem gX3_takesLetter_X8_append : GoodIn wsX3_takesLetter (wsV RX3 64 RX8 yX8_append wsX8_append) := goodIn_app (goodIn_of _ (by decide +kernel)) ggX3_takesLetter_X8_append
theorem dX3_takesLetter_0 : decode cX3_takesLetter 0 = .ok (.aload_n 0, 1) := by decide +kernel
theorem dX3_takesLetter_1 : decode cX3_takesLetter 1 = .ok (.getfield 12, 3) := by decide +kernel
theorem dX3_takesLetter_4 : decode cX3_takesLetter 4 = .ok (.invokevirtual 61, 3) := by decide +kernel
theorem dX3_takesLetter_7 : decode cX3_takesLetter 7 = .ok (.ifCond .eq 5, 3) := by decide +kernel
theorem dX3_takesLetter_10 : decode cX3_takesLetter 10 = .ok (.iconst 0, 1) := by decide +kernel
theorem dX3_takesLetter_11 : decode cX3_takesLetter 11 = .ok (.ireturn, 1) := by decide +kernel
theorem dX3_takesLetter_12 : decode cX3_takesLetter 12 = .ok (.aload_n 0, 1) := by decide +kernel
theorem dX3_takesLetter_13 : decode cX3_takesLetter 13 = .ok (.getfield 22, 3) := by decide +kernel
theorem dX3_takesLetter_16 : decode cX3_takesLetter 16 = .ok (.ifCond .ne 19, 3) := by decide +kernel
theorem dX3_takesLetter_19 : decode cX3_takesLetter 19 = .ok (.aload_n 0, 1) := by decide +kernel
theorem dX3_takesLetter_20 : decode cX3_takesLetter 20 = .ok (.aload_n 0, 1) := by decide +kernel
theorem dX3_takesLetter_21 : decode cX3_takesLetter 21 = .ok (.getfield 12, 3) := by decide +kernel
theorem dX3_takesLetter_24 : decode cX3_takesLetter 24 = .ok (.invokevirtual 46, 3) := by decide +kernel
theorem dX3_takesLetter_27 : decode cX3_takesLetter 27 = .ok (.putfield 18, 3) := by decide +kernel
theorem dX3_takesLetter_30 : decode cX3_takesLetter 30 = .ok (.aload_n 0, 1) := by decide +kernel
theorem dX3_takesLetter_31 : decode cX3_takesLetter 31 = .ok (.iconst 1, 1) := by decide +kernel
theorem dX3_takesLetter_32 : decode cX3_takesLetter 32 = .ok (.putfield 26, 3) := by decide +kernel
theorem dX3_takesLetter_35 : decode cX3_takesLetter 35 = .ok (.aload_n 0, 1) := by decide +kernel
theorem dX3_takesLetter_36 : decode cX3_takesLetter 36 = .ok (.getfield 12, 3) := by decide +kernel
theorem dX3_takesLetter_39 : decode cX3_takesLetter 39 = .ok (.iload_n 1, 1) := by decide +kernel
theorem dX3_takesLetter_40 : decode cX3_takesLetter 40 = .ok (.invokevirtual 64, 3) := by decide +kernel
theorem dX3_takesLetter_43 : decode cX3_takesLetter 43 = .ok (.iconst 1, 1) := by decide +kernel
theorem dX3_takesLetter_44 : decode cX3_takesLetter 44 = .ok (.ireturn, 1) := by decide +kernel
set_option maxRecDepth 20000 in
theorem ggX3_takesTimes_X8_length : GoodIn wsX3_takesTimes wsX8_length := goodIn_r _ [8, 9, 27, 28] (by decide +kernel) (by decide +kernel)
set_option maxRecDepth 20000 in
theorem gX3_takesTimes_X8_length : GoodIn wsX3_takesTimes (wsV RX3 46 RX8 yX8_length wsX8_length) := goodIn_app (goodIn_of _ (by decide +kernel)) ggX3_takesTimes_X8_length
set_option maxRecDepth 20000 in
theorem ggX3_takesTimes_X8_appendFactor : GoodIn wsX3_takesTimes wsX8_appendFactor := goodIn_r _ [13, 14, 15, 16, 7, 17, 9, 18, 19, 20, 21, 22, 27, 28] (by decide +kernel) (by decide +kernel)
set_option maxRecDepth 20000 in
theorem gX3_takesTimes_X8_appendFactor : GoodIn wsX3_takesTimes (wsV RX3 68 RX8 yX8_appendFactor wsX8_appendFactor) := goodIn_app (goodIn_of _ (by decide +kernel)) ggX3_takesTimes_X8_appendFactor
theorem dX3_takesTimes_0 : decode cX3_takesTimes 0 = .ok (.aload_n 0, 1) := by decide +kernel
theorem dX3_takesTimes_1 : decode cX3_takesTimes 1 = .ok (.getfield 12, 3) := by decide +kernel
theorem dX3_takesTimes_4 : decode cX3_takesTimes 4 = .ok (.invokevirtual 46, 3) := by decide +kernel
theorem dX3_takesTimes_7 : decode cX3_takesTimes 7 = .ok (.istore_n 2, 1) := by decide +kernel
theorem dX3_takesTimes_8 : decode cX3_takesTimes 8 = .ok (.iload_n 2, 1) := by decide +kernel
theorem dX3_takesTimes_9 : decode cX3_takesTimes 9 = .ok (.aload_n 0, 1) := by decide +kernel
theorem dX3_takesTimes_10 : decode cX3_takesTimes 10 = .ok (.getfield 18, 3) := by decide +kernel
theorem dX3_takesTimes_13 : decode cX3_takesTimes 13 = .ok (.isub, 1) := by decide +kernel
theorem dX3_takesTimes_14 : decode cX3_takesTimes 14 = .ok (.istore_n 3, 1) := by decide +kernel
theorem dX3_takesTimes_15 : decode cX3_takesTimes 15 = .ok (.aload_n 0, 1) := by decide +kernel
theorem dX3_takesTimes_16 : decode cX3_takesTimes 16 = .ok (.getfield 26, 3) := by decide +kernel
theorem dX3_takesTimes_19 : decode cX3_takesTimes 19 = .ok (.ifCond .eq 15, 3) := by decide +kernel
theorem dX3_takesTimes_22 : decode cX3_takesTimes 22 = .ok (.iload_n 2, 1) := by decide +kernel
theorem dX3_takesTimes_23 : decode cX3_takesTimes 23 = .ok (.iload_n 1, 1) := by decide +kernel
theorem dX3_takesTimes_24 : decode cX3_takesTimes 24 = .ok (.iconst 1, 1) := by decide +kernel
theorem dX3_takesTimes_25 : decode cX3_takesTimes 25 = .ok (.isub, 1) := by decide +kernel
theorem dX3_takesTimes_26 : decode cX3_takesTimes 26 = .ok (.iload_n 3, 1) := by decide +kernel
theorem dX3_takesTimes_27 : decode cX3_takesTimes 27 = .ok (.imul, 1) := by decide +kernel
theorem dX3_takesTimes_28 : decode cX3_takesTimes 28 = .ok (.iadd, 1) := by decide +kernel
theorem dX3_takesTimes_29 : decode cX3_takesTimes 29 = .ok (.bipush 40, 2) := by decide +kernel
theorem dX3_takesTimes_31 : decode cX3_takesTimes 31 = .ok (.if_icmp .le 5, 3) := by decide +kernel
theorem dX3_takesTimes_34 : decode cX3_takesTimes 34 = .ok (.iconst 0, 1) := by decide +kernel
theorem dX3_takesTimes_35 : decode cX3_takesTimes 35 = .ok (.ireturn, 1) := by decide +kernel
theorem dX3_takesTimes_36 : decode cX3_takesTimes 36 = .ok (.iconst 1, 1) := by decide +kernel
theorem dX3_takesTimes_37 : decode cX3_takesTimes 37 = .ok (.istore 4, 2) := by decide +kernel
theorem dX3_takesTimes_39 : decode cX3_takesTimes 39 = .ok (.iload 4, 2) := by decide +kernel
theorem dX3_takesTimes_41 : decode cX3_takesTimes 41 = .ok (.iload_n 1, 1) := by decide +kernel
theorem dX3_takesTimes_42 : decode cX3_takesTimes 42 = .ok (.if_icmp .ge 25, 3) := by decide +kernel
theorem dX3_takesTimes_45 : decode cX3_takesTimes 45 = .ok (.aload_n 0, 1) := by decide +kernel
theorem dX3_takesTimes_46 : decode cX3_takesTimes 46 = .ok (.getfield 12, 3) := by decide +kernel
theorem dX3_takesTimes_49 : decode cX3_takesTimes 49 = .ok (.aload_n 0, 1) := by decide +kernel
theorem dX3_takesTimes_50 : decode cX3_takesTimes 50 = .ok (.getfield 12, 3) := by decide +kernel
theorem dX3_takesTimes_53 : decode cX3_takesTimes 53 = .ok (.aload_n 0, 1) := by decide +kernel
theorem dX3_takesTimes_54 : decode cX3_takesTimes 54 = .ok (.getfield 18, 3) := by decide +kernel
theorem dX3_takesTimes_57 : decode cX3_takesTimes 57 = .ok (.iload_n 2, 1) := by decide +kernel
theorem dX3_takesTimes_58 : decode cX3_takesTimes 58 = .ok (.invokevirtual 68, 3) := by decide +kernel
theorem dX3_takesTimes_61 : decode cX3_takesTimes 61 = .ok (.iinc 4 1, 3) := by decide +kernel
theorem dX3_takesTimes_64 : decode cX3_takesTimes 64 = .ok (.goto (-25), 3) := by decide +kernel
theorem dX3_takesTimes_67 : decode cX3_takesTimes 67 = .ok (.aload_n 0, 1) := by decide +kernel
theorem dX3_takesTimes_68 : decode cX3_takesTimes 68 = .ok (.iconst 0, 1) := by decide +kernel
theorem dX3_takesTimes_69 : decode cX3_takesTimes 69 = .ok (.putfield 26, 3) := by decide +kernel
theorem dX3_takesTimes_72 : decode cX3_takesTimes 72 = .ok (.iconst 1, 1) := by decide +kernel
theorem dX3_takesTimes_73 : decode cX3_takesTimes 73 = .ok (.ireturn, 1) := by decide +kernel
set_option maxRecDepth 20000 in
theorem ggX3_opensGroup_X8_length : GoodIn wsX3_opensGroup wsX8_length := goodIn_r _ [9, 10, 15, 16] (by decide +kernel) (by decide +kernel)
set_option maxRecDepth 20000 in
theorem gX3_opensGroup_X8_length : GoodIn wsX3_opensGroup (wsV RX3 46 RX8 yX8_length wsX8_length) := goodIn_app (goodIn_of _ (by decide +kernel)) ggX3_opensGroup_X8_length
theorem dX3_opensGroup_0 : decode cX3_opensGroup 0 = .ok (.aload_n 0, 1) := by decide +kernel
theorem dX3_opensGroup_1 : decode cX3_opensGroup 1 = .ok (.getfield 22, 3) := by decide +kernel
theorem dX3_opensGroup_4 : decode cX3_opensGroup 4 = .ok (.ifCond .eq 5, 3) := by decide +kernel
theorem dX3_opensGroup_7 : decode cX3_opensGroup 7 = .ok (.iconst 0, 1) := by decide +kernel
theorem dX3_opensGroup_8 : decode cX3_opensGroup 8 = .ok (.ireturn, 1) := by decide +kernel
theorem dX3_opensGroup_9 : decode cX3_opensGroup 9 = .ok (.aload_n 0, 1) := by decide +kernel
theorem dX3_opensGroup_10 : decode cX3_opensGroup 10 = .ok (.aload_n 0, 1) := by decide +kernel
theorem dX3_opensGroup_11 : decode cX3_opensGroup 11 = .ok (.getfield 12, 3) := by decide +kernel
theorem dX3_opensGroup_14 : decode cX3_opensGroup 14 = .ok (.invokevirtual 46, 3) := by decide +kernel
theorem dX3_opensGroup_17 : decode cX3_opensGroup 17 = .ok (.putfield 18, 3) := by decide +kernel
theorem dX3_opensGroup_20 : decode cX3_opensGroup 20 = .ok (.aload_n 0, 1) := by decide +kernel
theorem dX3_opensGroup_21 : decode cX3_opensGroup 21 = .ok (.iconst 1, 1) := by decide +kernel
theorem dX3_opensGroup_22 : decode cX3_opensGroup 22 = .ok (.putfield 22, 3) := by decide +kernel
theorem dX3_opensGroup_25 : decode cX3_opensGroup 25 = .ok (.aload_n 0, 1) := by decide +kernel
theorem dX3_opensGroup_26 : decode cX3_opensGroup 26 = .ok (.iconst 0, 1) := by decide +kernel
theorem dX3_opensGroup_27 : decode cX3_opensGroup 27 = .ok (.putfield 26, 3) := by decide +kernel
theorem dX3_opensGroup_30 : decode cX3_opensGroup 30 = .ok (.iconst 1, 1) := by decide +kernel
theorem dX3_opensGroup_31 : decode cX3_opensGroup 31 = .ok (.ireturn, 1) := by decide +kernel
set_option maxRecDepth 20000 in
theorem ggX3_closesGroup_X8_length : GoodIn wsX3_closesGroup wsX8_length := goodIn_r _ [9, 10, 15, 16] (by decide +kernel) (by decide +kernel)
set_option maxRecDepth 20000 in
theorem gX3_closesGroup_X8_length : GoodIn wsX3_closesGroup (wsV RX3 46 RX8 yX8_length wsX8_length) := goodIn_app (goodIn_of _ (by decide +kernel)) ggX3_closesGroup_X8_length
theorem dX3_closesGroup_0 : decode cX3_closesGroup 0 = .ok (.aload_n 0, 1) := by decide +kernel
theorem dX3_closesGroup_1 : decode cX3_closesGroup 1 = .ok (.getfield 22, 3) := by decide +kernel
theorem dX3_closesGroup_4 : decode cX3_closesGroup 4 = .ok (.ifCond .eq 17, 3) := by decide +kernel
theorem dX3_closesGroup_7 : decode cX3_closesGroup 7 = .ok (.aload_n 0, 1) := by decide +kernel
theorem dX3_closesGroup_8 : decode cX3_closesGroup 8 = .ok (.getfield 12, 3) := by decide +kernel
theorem dX3_closesGroup_11 : decode cX3_closesGroup 11 = .ok (.invokevirtual 46, 3) := by decide +kernel
theorem dX3_closesGroup_14 : decode cX3_closesGroup 14 = .ok (.aload_n 0, 1) := by decide +kernel
theorem dX3_closesGroup_15 : decode cX3_closesGroup 15 = .ok (.getfield 18, 3) := by decide +kernel
theorem dX3_closesGroup_18 : decode cX3_closesGroup 18 = .ok (.if_icmp .ne 5, 3) := by decide +kernel
theorem dX3_closesGroup_21 : decode cX3_closesGroup 21 = .ok (.iconst 0, 1) := by decide +kernel
theorem dX3_closesGroup_22 : decode cX3_closesGroup 22 = .ok (.ireturn, 1) := by decide +kernel
theorem dX3_closesGroup_23 : decode cX3_closesGroup 23 = .ok (.aload_n 0, 1) := by decide +kernel
theorem dX3_closesGroup_24 : decode cX3_closesGroup 24 = .ok (.iconst 0, 1) := by decide +kernel
theorem dX3_closesGroup_25 : decode cX3_closesGroup 25 = .ok (.putfield 22, 3) := by decide +kernel
theorem dX3_closesGroup_28 : decode cX3_closesGroup 28 = .ok (.aload_n 0, 1) := by decide +kernel
theorem dX3_closesGroup_29 : decode cX3_closesGroup 29 = .ok (.iconst 1, 1) := by decide +kernel
theorem dX3_closesGroup_30 : decode cX3_closesGroup 30 = .ok (.putfield 26, 3) := by decide +kernel
theorem dX3_closesGroup_33 : decode cX3_closesGroup 33 = .ok (.iconst 1, 1) := by decide +kernel
theorem dX3_closesGroup_34 : decode cX3_closesGroup 34 = .ok (.ireturn, 1) := by decide +kernel
set_option maxRecDepth 20000 in
theorem ggX4_total_X8_length : GoodIn wsX4_total wsX8_length := goodIn_r _ [5, 6, 33, 34] (by decide +kernel) (by decide +kernel)
set_option maxRecDepth 20000 in
theorem gX4_total_X8_length : GoodIn wsX4_total (wsV RX4 9 RX8 yX8_length wsX8_length) := goodIn_app (goodIn_of _ (by decide +kernel)) ggX4_total_X8_length
set_option maxRecDepth 20000 in
theorem ggX4_total_X4_endOf : GoodIn wsX4_total wsX4_endOf := goodIn_r _ [10, 11, 12, 13, 4, 14, 6, 15, 16, 17, 18, 19, 20, 21, 22, 23, 24, 25, 26, 27, 28, 29, 30, 31, 32, 33, 34] (by decide +kernel) (by decide +kernel)
set_option maxRecDepth 20000 in
theorem gX4_total_X4_endOf : GoodIn wsX4_total (va_wsS RX4 15 yX4_endOf wsX4_endOf) := goodIn_app (goodIn_of _ (by decide +kernel)) ggX4_total_X4_endOf
theorem dX4_total_0 : decode cX4_total 0 = .ok (.iconst 0, 1) := by decide +kernel
theorem dX4_total_1 : decode cX4_total 1 = .ok (.istore_n 1, 1) := by decide +kernel
theorem dX4_total_2 : decode cX4_total 2 = .ok (.iconst 0, 1) := by decide +kernel
theorem dX4_total_3 : decode cX4_total 3 = .ok (.istore_n 2, 1) := by decide +kernel
theorem dX4_total_4 : decode cX4_total 4 = .ok (.iload_n 2, 1) := by decide +kernel
theorem dX4_total_5 : decode cX4_total 5 = .ok (.aload_n 0, 1) := by decide +kernel
theorem dX4_total_6 : decode cX4_total 6 = .ok (.invokevirtual 9, 3) := by decide +kernel
theorem dX4_total_9 : decode cX4_total 9 = .ok (.if_icmp .ge 42, 3) := by decide +kernel
theorem dX4_total_12 : decode cX4_total 12 = .ok (.iconst 1, 1) := by decide +kernel
theorem dX4_total_13 : decode cX4_total 13 = .ok (.istore_n 3, 1) := by decide +kernel
theorem dX4_total_14 : decode cX4_total 14 = .ok (.iload_n 2, 1) := by decide +kernel
theorem dX4_total_15 : decode cX4_total 15 = .ok (.iconst 2, 1) := by decide +kernel
theorem dX4_total_16 : decode cX4_total 16 = .ok (.iload_n 3, 1) := by decide +kernel
theorem dX4_total_17 : decode cX4_total 17 = .ok (.imul, 1) := by decide +kernel
theorem dX4_total_18 : decode cX4_total 18 = .ok (.iadd, 1) := by decide +kernel
theorem dX4_total_19 : decode cX4_total 19 = .ok (.aload_n 0, 1) := by decide +kernel
theorem dX4_total_20 : decode cX4_total 20 = .ok (.invokevirtual 9, 3) := by decide +kernel
theorem dX4_total_23 : decode cX4_total 23 = .ok (.if_icmp .gt 22, 3) := by decide +kernel
theorem dX4_total_26 : decode cX4_total 26 = .ok (.aload_n 0, 1) := by decide +kernel
theorem dX4_total_27 : decode cX4_total 27 = .ok (.iload_n 2, 1) := by decide +kernel
theorem dX4_total_28 : decode cX4_total 28 = .ok (.iload_n 3, 1) := by decide +kernel
theorem dX4_total_29 : decode cX4_total 29 = .ok (.invokestatic 15, 3) := by decide +kernel
theorem dX4_total_32 : decode cX4_total 32 = .ok (.iconst (-1), 1) := by decide +kernel
theorem dX4_total_33 : decode cX4_total 33 = .ok (.if_icmp .eq 6, 3) := by decide +kernel
theorem dX4_total_36 : decode cX4_total 36 = .ok (.iinc 1 1, 3) := by decide +kernel
theorem dX4_total_39 : decode cX4_total 39 = .ok (.iinc 3 1, 3) := by decide +kernel
theorem dX4_total_42 : decode cX4_total 42 = .ok (.goto (-28), 3) := by decide +kernel
theorem dX4_total_45 : decode cX4_total 45 = .ok (.iinc 2 1, 3) := by decide +kernel
theorem dX4_total_48 : decode cX4_total 48 = .ok (.goto (-44), 3) := by decide +kernel
theorem dX4_total_51 : decode cX4_total 51 = .ok (.iload_n 1, 1) := by decide +kernel
theorem dX4_total_52 : decode cX4_total 52 = .ok (.ireturn, 1) := by decide +kernel
set_option maxRecDepth 20000 in
theorem ggX4_over_X8_length : GoodIn wsX4_over wsX8_length := goodIn_r _ [5, 6, 33, 34] (by decide +kernel) (by decide +kernel)
set_option maxRecDepth 20000 in
theorem gX4_over_X8_length : GoodIn wsX4_over (wsV RX4 9 RX8 yX8_length wsX8_length) := goodIn_app (goodIn_of _ (by decide +kernel)) ggX4_over_X8_length
set_option maxRecDepth 20000 in
theorem ggX4_over_X4_endOf : GoodIn wsX4_over wsX4_endOf := goodIn_r _ [10, 11, 12, 13, 4, 14, 6, 15, 16, 17, 18, 19, 20, 21, 22, 23, 24, 25, 26, 27, 28, 29, 30, 31, 32, 33, 34] (by decide +kernel) (by decide +kernel)
set_option maxRecDepth 20000 in
theorem gX4_over_X4_endOf : GoodIn wsX4_over (va_wsS RX4 15 yX4_endOf wsX4_endOf) := goodIn_app (goodIn_of _ (by decide +kernel)) ggX4_over_X4_endOf
theorem dX4_over_0 : decode cX4_over 0 = .ok (.iconst 0, 1) := by decide +kernel
theorem dX4_over_1 : decode cX4_over 1 = .ok (.istore_n 2, 1) := by decide +kernel
theorem dX4_over_2 : decode cX4_over 2 = .ok (.iconst 0, 1) := by decide +kernel
theorem dX4_over_3 : decode cX4_over 3 = .ok (.istore_n 3, 1) := by decide +kernel
theorem dX4_over_4 : decode cX4_over 4 = .ok (.iload_n 3, 1) := by decide +kernel
theorem dX4_over_5 : decode cX4_over 5 = .ok (.iload_n 1, 1) := by decide +kernel
theorem dX4_over_6 : decode cX4_over 6 = .ok (.if_icmp .gt 45, 3) := by decide +kernel
theorem dX4_over_9 : decode cX4_over 9 = .ok (.iconst 1, 1) := by decide +kernel
theorem dX4_over_10 : decode cX4_over 10 = .ok (.istore 4, 2) := by decide +kernel
theorem dX4_over_12 : decode cX4_over 12 = .ok (.iload_n 3, 1) := by decide +kernel
theorem dX4_over_13 : decode cX4_over 13 = .ok (.iconst 2, 1) := by decide +kernel
theorem dX4_over_14 : decode cX4_over 14 = .ok (.iload 4, 2) := by decide +kernel
theorem dX4_over_16 : decode cX4_over 16 = .ok (.imul, 1) := by decide +kernel
theorem dX4_over_17 : decode cX4_over 17 = .ok (.iadd, 1) := by decide +kernel
theorem dX4_over_18 : decode cX4_over 18 = .ok (.aload_n 0, 1) := by decide +kernel
theorem dX4_over_19 : decode cX4_over 19 = .ok (.invokevirtual 9, 3) := by decide +kernel
theorem dX4_over_22 : decode cX4_over 22 = .ok (.if_icmp .gt 23, 3) := by decide +kernel
theorem dX4_over_25 : decode cX4_over 25 = .ok (.aload_n 0, 1) := by decide +kernel
theorem dX4_over_26 : decode cX4_over 26 = .ok (.iload_n 3, 1) := by decide +kernel
theorem dX4_over_27 : decode cX4_over 27 = .ok (.iload 4, 2) := by decide +kernel
theorem dX4_over_29 : decode cX4_over 29 = .ok (.invokestatic 15, 3) := by decide +kernel
theorem dX4_over_32 : decode cX4_over 32 = .ok (.iload_n 1, 1) := by decide +kernel
theorem dX4_over_33 : decode cX4_over 33 = .ok (.if_icmp .le 6, 3) := by decide +kernel
theorem dX4_over_36 : decode cX4_over 36 = .ok (.iinc 2 1, 3) := by decide +kernel
theorem dX4_over_39 : decode cX4_over 39 = .ok (.iinc 4 1, 3) := by decide +kernel
theorem dX4_over_42 : decode cX4_over 42 = .ok (.goto (-30), 3) := by decide +kernel
theorem dX4_over_45 : decode cX4_over 45 = .ok (.iinc 3 1, 3) := by decide +kernel
theorem dX4_over_48 : decode cX4_over 48 = .ok (.goto (-44), 3) := by decide +kernel
theorem dX4_over_51 : decode cX4_over 51 = .ok (.iload_n 2, 1) := by decide +kernel
theorem dX4_over_52 : decode cX4_over 52 = .ok (.ireturn, 1) := by decide +kernel
set_option maxRecDepth 20000 in
theorem ggX4_ranked_X8_length : GoodIn wsX4_ranked wsX8_length := goodIn_r _ [5, 6, 39, 40] (by decide +kernel) (by decide +kernel)
set_option maxRecDepth 20000 in
theorem gX4_ranked_X8_length : GoodIn wsX4_ranked (wsV RX4 9 RX8 yX8_length wsX8_length) := goodIn_app (goodIn_of _ (by decide +kernel)) ggX4_ranked_X8_length
set_option maxRecDepth 20000 in
theorem ggX4_ranked_X4_endOf : GoodIn wsX4_ranked wsX4_endOf := goodIn_r _ [10, 11, 12, 13, 4, 14, 6, 15, 16, 17, 18, 19, 20, 21, 22, 23, 24, 25, 26, 27, 28, 29, 30, 31, 32, 39, 40] (by decide +kernel) (by decide +kernel)
set_option maxRecDepth 20000 in
theorem gX4_ranked_X4_endOf : GoodIn wsX4_ranked (va_wsS RX4 15 yX4_endOf wsX4_endOf) := goodIn_app (goodIn_of _ (by decide +kernel)) ggX4_ranked_X4_endOf
set_option maxRecDepth 20000 in
theorem ggX4_ranked_X4_told : GoodIn wsX4_ranked wsX4_told := goodIn_r _ [35, 36, 37, 9, 38, 16, 17, 18, 4, 19, 6, 20, 21, 22, 23, 24, 12, 13, 14, 15, 11, 39, 40] (by decide +kernel) (by decide +kernel)
set_option maxRecDepth 20000 in
theorem gX4_ranked_X4_told : GoodIn wsX4_ranked (va_wsS RX4 21 yX4_told wsX4_told) := goodIn_app (goodIn_of _ (by decide +kernel)) ggX4_ranked_X4_told
theorem dX4_ranked_0 : decode cX4_ranked 0 = .ok (.iconst 0, 1) := by decide +kernel
theorem dX4_ranked_1 : decode cX4_ranked 1 = .ok (.istore_n 3, 1) := by decide +kernel
theorem dX4_ranked_2 : decode cX4_ranked 2 = .ok (.iconst 0, 1) := by decide +kernel
theorem dX4_ranked_3 : decode cX4_ranked 3 = .ok (.istore 4, 2) := by decide +kernel
theorem dX4_ranked_5 : decode cX4_ranked 5 = .ok (.iload 4, 2) := by decide +kernel
theorem dX4_ranked_7 : decode cX4_ranked 7 = .ok (.aload_n 0, 1) := by decide +kernel
theorem dX4_ranked_8 : decode cX4_ranked 8 = .ok (.invokevirtual 9, 3) := by decide +kernel
theorem dX4_ranked_11 : decode cX4_ranked 11 = .ok (.if_icmp .ge 68, 3) := by decide +kernel
theorem dX4_ranked_14 : decode cX4_ranked 14 = .ok (.iconst 1, 1) := by decide +kernel
theorem dX4_ranked_15 : decode cX4_ranked 15 = .ok (.istore 5, 2) := by decide +kernel
theorem dX4_ranked_17 : decode cX4_ranked 17 = .ok (.iload 4, 2) := by decide +kernel
theorem dX4_ranked_19 : decode cX4_ranked 19 = .ok (.iconst 2, 1) := by decide +kernel
theorem dX4_ranked_20 : decode cX4_ranked 20 = .ok (.iload 5, 2) := by decide +kernel
theorem dX4_ranked_22 : decode cX4_ranked 22 = .ok (.imul, 1) := by decide +kernel
theorem dX4_ranked_23 : decode cX4_ranked 23 = .ok (.iadd, 1) := by decide +kernel
theorem dX4_ranked_24 : decode cX4_ranked 24 = .ok (.aload_n 0, 1) := by decide +kernel
theorem dX4_ranked_25 : decode cX4_ranked 25 = .ok (.invokevirtual 9, 3) := by decide +kernel
theorem dX4_ranked_28 : decode cX4_ranked 28 = .ok (.if_icmp .gt 45, 3) := by decide +kernel
theorem dX4_ranked_31 : decode cX4_ranked 31 = .ok (.aload_n 0, 1) := by decide +kernel
theorem dX4_ranked_32 : decode cX4_ranked 32 = .ok (.iload 4, 2) := by decide +kernel
theorem dX4_ranked_34 : decode cX4_ranked 34 = .ok (.iload 5, 2) := by decide +kernel
theorem dX4_ranked_36 : decode cX4_ranked 36 = .ok (.invokestatic 15, 3) := by decide +kernel
theorem dX4_ranked_39 : decode cX4_ranked 39 = .ok (.istore 6, 2) := by decide +kernel
theorem dX4_ranked_41 : decode cX4_ranked 41 = .ok (.iload 6, 2) := by decide +kernel
theorem dX4_ranked_43 : decode cX4_ranked 43 = .ok (.iconst (-1), 1) := by decide +kernel
theorem dX4_ranked_44 : decode cX4_ranked 44 = .ok (.if_icmp .eq 23, 3) := by decide +kernel
theorem dX4_ranked_47 : decode cX4_ranked 47 = .ok (.iload_n 3, 1) := by decide +kernel
theorem dX4_ranked_48 : decode cX4_ranked 48 = .ok (.iload_n 1, 1) := by decide +kernel
theorem dX4_ranked_49 : decode cX4_ranked 49 = .ok (.if_icmp .ne 15, 3) := by decide +kernel
theorem dX4_ranked_52 : decode cX4_ranked 52 = .ok (.aload_n 0, 1) := by decide +kernel
theorem dX4_ranked_53 : decode cX4_ranked 53 = .ok (.iload 4, 2) := by decide +kernel
theorem dX4_ranked_55 : decode cX4_ranked 55 = .ok (.iload 6, 2) := by decide +kernel
theorem dX4_ranked_57 : decode cX4_ranked 57 = .ok (.iload 5, 2) := by decide +kernel
theorem dX4_ranked_59 : decode cX4_ranked 59 = .ok (.iload_n 2, 1) := by decide +kernel
theorem dX4_ranked_60 : decode cX4_ranked 60 = .ok (.invokestatic 21, 3) := by decide +kernel
theorem dX4_ranked_63 : decode cX4_ranked 63 = .ok (.ireturn, 1) := by decide +kernel
theorem dX4_ranked_64 : decode cX4_ranked 64 = .ok (.iinc 3 1, 3) := by decide +kernel
theorem dX4_ranked_67 : decode cX4_ranked 67 = .ok (.iinc 5 1, 3) := by decide +kernel
theorem dX4_ranked_70 : decode cX4_ranked 70 = .ok (.goto (-53), 3) := by decide +kernel
theorem dX4_ranked_73 : decode cX4_ranked 73 = .ok (.iinc 4 1, 3) := by decide +kernel
theorem dX4_ranked_76 : decode cX4_ranked 76 = .ok (.goto (-71), 3) := by decide +kernel
theorem dX4_ranked_79 : decode cX4_ranked 79 = .ok (.bipush (-4), 2) := by decide +kernel
theorem dX4_ranked_81 : decode cX4_ranked 81 = .ok (.ireturn, 1) := by decide +kernel
set_option maxRecDepth 20000 in
theorem ggX4_told_X4_rootOf : GoodIn wsX4_told wsX4_rootOf := goodIn_r _ [4, 5, 6, 7, 8, 9, 10, 11, 12, 13, 14, 15, 16, 17, 18, 19, 20, 21, 22] (by decide +kernel) (by decide +kernel)
set_option maxRecDepth 20000 in
theorem gX4_told_X4_rootOf : GoodIn wsX4_told (va_wsS RX4 25 yX4_rootOf wsX4_rootOf) := goodIn_app (goodIn_of _ (by decide +kernel)) ggX4_told_X4_rootOf
theorem dX4_told_0 : decode cX4_told 0 = .ok (.iload 4, 2) := by decide +kernel
theorem dX4_told_2 : decode cX4_told 2 = .ok (.tableswitch 44 0 3 #[30, 32, 34, 36], 30) := by decide +kernel
theorem dX4_told_32 : decode cX4_told 32 = .ok (.iload_n 1, 1) := by decide +kernel
theorem dX4_told_33 : decode cX4_told 33 = .ok (.ireturn, 1) := by decide +kernel
theorem dX4_told_34 : decode cX4_told 34 = .ok (.iload_n 2, 1) := by decide +kernel
theorem dX4_told_35 : decode cX4_told 35 = .ok (.ireturn, 1) := by decide +kernel
theorem dX4_told_36 : decode cX4_told 36 = .ok (.iload_n 3, 1) := by decide +kernel
theorem dX4_told_37 : decode cX4_told 37 = .ok (.ireturn, 1) := by decide +kernel
theorem dX4_told_38 : decode cX4_told 38 = .ok (.aload_n 0, 1) := by decide +kernel
theorem dX4_told_39 : decode cX4_told 39 = .ok (.iload_n 1, 1) := by decide +kernel
theorem dX4_told_40 : decode cX4_told 40 = .ok (.iload_n 2, 1) := by decide +kernel
theorem dX4_told_41 : decode cX4_told 41 = .ok (.iload_n 3, 1) := by decide +kernel
theorem dX4_told_42 : decode cX4_told 42 = .ok (.invokestatic 25, 3) := by decide +kernel
theorem dX4_told_45 : decode cX4_told 45 = .ok (.ireturn, 1) := by decide +kernel
theorem dX4_told_46 : decode cX4_told 46 = .ok (.iload_n 2, 1) := by decide +kernel
theorem dX4_told_47 : decode cX4_told 47 = .ok (.iload_n 1, 1) := by decide +kernel
theorem dX4_told_48 : decode cX4_told 48 = .ok (.isub, 1) := by decide +kernel
theorem dX4_told_49 : decode cX4_told 49 = .ok (.iconst 2, 1) := by decide +kernel
theorem dX4_told_50 : decode cX4_told 50 = .ok (.iload_n 3, 1) := by decide +kernel
theorem dX4_told_51 : decode cX4_told 51 = .ok (.imul, 1) := by decide +kernel
theorem dX4_told_52 : decode cX4_told 52 = .ok (.isub, 1) := by decide +kernel
theorem dX4_told_53 : decode cX4_told 53 = .ok (.iconst 1, 1) := by decide +kernel
theorem dX4_told_54 : decode cX4_told 54 = .ok (.iadd, 1) := by decide +kernel
theorem dX4_told_55 : decode cX4_told 55 = .ok (.ireturn, 1) := by decide +kernel
set_option maxRecDepth 20000 in
theorem ggX4_endOf_X8_letterAt : GoodIn wsX4_endOf wsX8_letterAt := goodIn_r _ [5, 6, 7, 25, 26] (by decide +kernel) (by decide +kernel)
set_option maxRecDepth 20000 in
theorem gX4_endOf_X8_letterAt : GoodIn wsX4_endOf (wsV RX4 29 RX8 yX8_letterAt wsX8_letterAt) := goodIn_app (goodIn_of _ (by decide +kernel)) ggX4_endOf_X8_letterAt
set_option maxRecDepth 20000 in
theorem ggX4_endOf_X8_alikeFrom : GoodIn wsX4_endOf wsX8_alikeFrom := goodIn_r _ [11, 6, 12, 13, 14, 15, 16, 2, 3, 4, 5, 7, 25, 26] (by decide +kernel) (by decide +kernel)
set_option maxRecDepth 20000 in
theorem gX4_endOf_X8_alikeFrom : GoodIn wsX4_endOf (wsV RX4 33 RX8 yX8_alikeFrom wsX8_alikeFrom) := goodIn_app (goodIn_of _ (by decide +kernel)) ggX4_endOf_X8_alikeFrom
set_option maxRecDepth 20000 in
theorem ggX4_endOf_X2_least : GoodIn wsX4_endOf wsX2_least := goodIn_r _ [20, 21, 22, 19, 23, 24, 2, 3, 4, 5, 6, 7, 25, 26] (by decide +kernel) (by decide +kernel)
set_option maxRecDepth 20000 in
theorem gX4_endOf_X2_least : GoodIn wsX4_endOf (va_wsS RX4 37 yX2_least wsX2_least) := goodIn_app (goodIn_of _ (by decide +kernel)) ggX4_endOf_X2_least
theorem dX4_endOf_0 : decode cX4_endOf 0 = .ok (.iload_n 1, 1) := by decide +kernel
theorem dX4_endOf_1 : decode cX4_endOf 1 = .ok (.ifCond .le 24, 3) := by decide +kernel
theorem dX4_endOf_4 : decode cX4_endOf 4 = .ok (.aload_n 0, 1) := by decide +kernel
theorem dX4_endOf_5 : decode cX4_endOf 5 = .ok (.iload_n 1, 1) := by decide +kernel
theorem dX4_endOf_6 : decode cX4_endOf 6 = .ok (.iconst 1, 1) := by decide +kernel
theorem dX4_endOf_7 : decode cX4_endOf 7 = .ok (.isub, 1) := by decide +kernel
theorem dX4_endOf_8 : decode cX4_endOf 8 = .ok (.invokevirtual 29, 3) := by decide +kernel
theorem dX4_endOf_11 : decode cX4_endOf 11 = .ok (.aload_n 0, 1) := by decide +kernel
theorem dX4_endOf_12 : decode cX4_endOf 12 = .ok (.iload_n 1, 1) := by decide +kernel
theorem dX4_endOf_13 : decode cX4_endOf 13 = .ok (.iconst 1, 1) := by decide +kernel
theorem dX4_endOf_14 : decode cX4_endOf 14 = .ok (.isub, 1) := by decide +kernel
theorem dX4_endOf_15 : decode cX4_endOf 15 = .ok (.iload_n 2, 1) := by decide +kernel
theorem dX4_endOf_16 : decode cX4_endOf 16 = .ok (.iadd, 1) := by decide +kernel
theorem dX4_endOf_17 : decode cX4_endOf 17 = .ok (.invokevirtual 29, 3) := by decide +kernel
theorem dX4_endOf_20 : decode cX4_endOf 20 = .ok (.if_icmp .ne 5, 3) := by decide +kernel
theorem dX4_endOf_23 : decode cX4_endOf 23 = .ok (.iconst (-1), 1) := by decide +kernel
theorem dX4_endOf_24 : decode cX4_endOf 24 = .ok (.ireturn, 1) := by decide +kernel
theorem dX4_endOf_25 : decode cX4_endOf 25 = .ok (.iload_n 1, 1) := by decide +kernel
theorem dX4_endOf_26 : decode cX4_endOf 26 = .ok (.iload_n 2, 1) := by decide +kernel
theorem dX4_endOf_27 : decode cX4_endOf 27 = .ok (.iadd, 1) := by decide +kernel
theorem dX4_endOf_28 : decode cX4_endOf 28 = .ok (.aload_n 0, 1) := by decide +kernel
theorem dX4_endOf_29 : decode cX4_endOf 29 = .ok (.iload_n 1, 1) := by decide +kernel
theorem dX4_endOf_30 : decode cX4_endOf 30 = .ok (.iload_n 1, 1) := by decide +kernel
theorem dX4_endOf_31 : decode cX4_endOf 31 = .ok (.iload_n 2, 1) := by decide +kernel
theorem dX4_endOf_32 : decode cX4_endOf 32 = .ok (.iadd, 1) := by decide +kernel
theorem dX4_endOf_33 : decode cX4_endOf 33 = .ok (.invokevirtual 33, 3) := by decide +kernel
theorem dX4_endOf_36 : decode cX4_endOf 36 = .ok (.iadd, 1) := by decide +kernel
theorem dX4_endOf_37 : decode cX4_endOf 37 = .ok (.istore_n 3, 1) := by decide +kernel
theorem dX4_endOf_38 : decode cX4_endOf 38 = .ok (.iload_n 3, 1) := by decide +kernel
theorem dX4_endOf_39 : decode cX4_endOf 39 = .ok (.iload_n 1, 1) := by decide +kernel
theorem dX4_endOf_40 : decode cX4_endOf 40 = .ok (.isub, 1) := by decide +kernel
theorem dX4_endOf_41 : decode cX4_endOf 41 = .ok (.iconst 2, 1) := by decide +kernel
theorem dX4_endOf_42 : decode cX4_endOf 42 = .ok (.iload_n 2, 1) := by decide +kernel
theorem dX4_endOf_43 : decode cX4_endOf 43 = .ok (.imul, 1) := by decide +kernel
theorem dX4_endOf_44 : decode cX4_endOf 44 = .ok (.if_icmp .lt 17, 3) := by decide +kernel
theorem dX4_endOf_47 : decode cX4_endOf 47 = .ok (.aload_n 0, 1) := by decide +kernel
theorem dX4_endOf_48 : decode cX4_endOf 48 = .ok (.iload_n 1, 1) := by decide +kernel
theorem dX4_endOf_49 : decode cX4_endOf 49 = .ok (.iload_n 3, 1) := by decide +kernel
theorem dX4_endOf_50 : decode cX4_endOf 50 = .ok (.invokestatic 37, 3) := by decide +kernel
theorem dX4_endOf_53 : decode cX4_endOf 53 = .ok (.iload_n 2, 1) := by decide +kernel
theorem dX4_endOf_54 : decode cX4_endOf 54 = .ok (.if_icmp .ne 7, 3) := by decide +kernel
theorem dX4_endOf_57 : decode cX4_endOf 57 = .ok (.iconst 1, 1) := by decide +kernel
theorem dX4_endOf_58 : decode cX4_endOf 58 = .ok (.goto 4, 3) := by decide +kernel
theorem dX4_endOf_61 : decode cX4_endOf 61 = .ok (.iconst 0, 1) := by decide +kernel
theorem dX4_endOf_62 : decode cX4_endOf 62 = .ok (.istore 4, 2) := by decide +kernel
theorem dX4_endOf_64 : decode cX4_endOf 64 = .ok (.iload 4, 2) := by decide +kernel
theorem dX4_endOf_66 : decode cX4_endOf 66 = .ok (.ifCond .eq 7, 3) := by decide +kernel
theorem dX4_endOf_69 : decode cX4_endOf 69 = .ok (.iload_n 3, 1) := by decide +kernel
theorem dX4_endOf_70 : decode cX4_endOf 70 = .ok (.goto 4, 3) := by decide +kernel
theorem dX4_endOf_73 : decode cX4_endOf 73 = .ok (.iconst (-1), 1) := by decide +kernel
theorem dX4_endOf_74 : decode cX4_endOf 74 = .ok (.ireturn, 1) := by decide +kernel
set_option maxRecDepth 20000 in
theorem ggX4_rootOf_X8_alikeFrom : GoodIn wsX4_rootOf wsX8_alikeFrom := goodIn_r _ [5, 6, 7, 8, 9, 10, 11, 12, 13, 4, 14, 15, 17, 18] (by decide +kernel) (by decide +kernel)
set_option maxRecDepth 20000 in
theorem gX4_rootOf_X8_alikeFrom : GoodIn wsX4_rootOf (wsV RX4 33 RX8 yX8_alikeFrom wsX8_alikeFrom) := goodIn_app (goodIn_of _ (by decide +kernel)) ggX4_rootOf_X8_alikeFrom
set_option maxRecDepth 20000 in
theorem ggX4_rootOf_X8_letterAt : GoodIn wsX4_rootOf wsX8_letterAt := goodIn_r _ [14, 6, 15, 17, 18] (by decide +kernel) (by decide +kernel)
set_option maxRecDepth 20000 in
theorem gX4_rootOf_X8_letterAt : GoodIn wsX4_rootOf (wsV RX4 29 RX8 yX8_letterAt wsX8_letterAt) := goodIn_app (goodIn_of _ (by decide +kernel)) ggX4_rootOf_X8_letterAt
theorem dX4_rootOf_0 : decode cX4_rootOf 0 = .ok (.iload_n 1, 1) := by decide +kernel
theorem dX4_rootOf_1 : decode cX4_rootOf 1 = .ok (.istore 4, 2) := by decide +kernel
theorem dX4_rootOf_3 : decode cX4_rootOf 3 = .ok (.iload_n 1, 1) := by decide +kernel
theorem dX4_rootOf_4 : decode cX4_rootOf 4 = .ok (.iconst 1, 1) := by decide +kernel
theorem dX4_rootOf_5 : decode cX4_rootOf 5 = .ok (.iadd, 1) := by decide +kernel
theorem dX4_rootOf_6 : decode cX4_rootOf 6 = .ok (.istore 5, 2) := by decide +kernel
theorem dX4_rootOf_8 : decode cX4_rootOf 8 = .ok (.iload 5, 2) := by decide +kernel
theorem dX4_rootOf_10 : decode cX4_rootOf 10 = .ok (.iload_n 3, 1) := by decide +kernel
theorem dX4_rootOf_11 : decode cX4_rootOf 11 = .ok (.iadd, 1) := by decide +kernel
theorem dX4_rootOf_12 : decode cX4_rootOf 12 = .ok (.iload_n 2, 1) := by decide +kernel
theorem dX4_rootOf_13 : decode cX4_rootOf 13 = .ok (.if_icmp .gt 50, 3) := by decide +kernel
theorem dX4_rootOf_16 : decode cX4_rootOf 16 = .ok (.aload_n 0, 1) := by decide +kernel
theorem dX4_rootOf_17 : decode cX4_rootOf 17 = .ok (.iload 5, 2) := by decide +kernel
theorem dX4_rootOf_19 : decode cX4_rootOf 19 = .ok (.iload 4, 2) := by decide +kernel
theorem dX4_rootOf_21 : decode cX4_rootOf 21 = .ok (.invokevirtual 33, 3) := by decide +kernel
theorem dX4_rootOf_24 : decode cX4_rootOf 24 = .ok (.istore 6, 2) := by decide +kernel
theorem dX4_rootOf_26 : decode cX4_rootOf 26 = .ok (.iload 6, 2) := by decide +kernel
theorem dX4_rootOf_28 : decode cX4_rootOf 28 = .ok (.iload_n 3, 1) := by decide +kernel
theorem dX4_rootOf_29 : decode cX4_rootOf 29 = .ok (.if_icmp .ge 28, 3) := by decide +kernel
theorem dX4_rootOf_32 : decode cX4_rootOf 32 = .ok (.aload_n 0, 1) := by decide +kernel
theorem dX4_rootOf_33 : decode cX4_rootOf 33 = .ok (.iload 5, 2) := by decide +kernel
theorem dX4_rootOf_35 : decode cX4_rootOf 35 = .ok (.iload 6, 2) := by decide +kernel
theorem dX4_rootOf_37 : decode cX4_rootOf 37 = .ok (.iadd, 1) := by decide +kernel
theorem dX4_rootOf_38 : decode cX4_rootOf 38 = .ok (.invokevirtual 29, 3) := by decide +kernel
theorem dX4_rootOf_41 : decode cX4_rootOf 41 = .ok (.aload_n 0, 1) := by decide +kernel
theorem dX4_rootOf_42 : decode cX4_rootOf 42 = .ok (.iload 4, 2) := by decide +kernel
theorem dX4_rootOf_44 : decode cX4_rootOf 44 = .ok (.iload 6, 2) := by decide +kernel
theorem dX4_rootOf_46 : decode cX4_rootOf 46 = .ok (.iadd, 1) := by decide +kernel
theorem dX4_rootOf_47 : decode cX4_rootOf 47 = .ok (.invokevirtual 29, 3) := by decide +kernel
theorem dX4_rootOf_50 : decode cX4_rootOf 50 = .ok (.if_icmp .ge 7, 3) := by decide +kernel
theorem dX4_rootOf_53 : decode cX4_rootOf 53 = .ok (.iload 5, 2) := by decide +kernel
theorem dX4_rootOf_55 : decode cX4_rootOf 55 = .ok (.istore 4, 2) := by decide +kernel
theorem dX4_rootOf_57 : decode cX4_rootOf 57 = .ok (.iinc 5 1, 3) := by decide +kernel
theorem dX4_rootOf_60 : decode cX4_rootOf 60 = .ok (.goto (-52), 3) := by decide +kernel
theorem dX4_rootOf_63 : decode cX4_rootOf 63 = .ok (.iload 4, 2) := by decide +kernel
theorem dX4_rootOf_65 : decode cX4_rootOf 65 = .ok (.ireturn, 1) := by decide +kernel
set_option maxRecDepth 20000 in
theorem ggX5_total_X8_length : GoodIn wsX5_total wsX8_length := goodIn_r _ [5, 6, 27, 28] (by decide +kernel) (by decide +kernel)
set_option maxRecDepth 20000 in
theorem gX5_total_X8_length : GoodIn wsX5_total (wsV RX5 9 RX8 yX8_length wsX8_length) := goodIn_app (goodIn_of _ (by decide +kernel)) ggX5_total_X8_length
set_option maxRecDepth 20000 in
theorem ggX5_total_X5_endingAt : GoodIn wsX5_total wsX5_endingAt := goodIn_r _ [10, 11, 12, 9, 13, 14, 15, 16, 4, 17, 6, 18, 19, 20, 21, 22, 23, 24, 25, 26, 27, 28] (by decide +kernel) (by decide +kernel)
set_option maxRecDepth 20000 in
theorem gX5_total_X5_endingAt : GoodIn wsX5_total (va_wsS RX5 15 yX5_endingAt wsX5_endingAt) := goodIn_app (goodIn_of _ (by decide +kernel)) ggX5_total_X5_endingAt
theorem dX5_total_0 : decode cX5_total 0 = .ok (.iconst 0, 1) := by decide +kernel
theorem dX5_total_1 : decode cX5_total 1 = .ok (.istore_n 1, 1) := by decide +kernel
theorem dX5_total_2 : decode cX5_total 2 = .ok (.iconst 2, 1) := by decide +kernel
theorem dX5_total_3 : decode cX5_total 3 = .ok (.istore_n 2, 1) := by decide +kernel
theorem dX5_total_4 : decode cX5_total 4 = .ok (.iload_n 2, 1) := by decide +kernel
theorem dX5_total_5 : decode cX5_total 5 = .ok (.aload_n 0, 1) := by decide +kernel
theorem dX5_total_6 : decode cX5_total 6 = .ok (.invokevirtual 9, 3) := by decide +kernel
theorem dX5_total_9 : decode cX5_total 9 = .ok (.if_icmp .gt 17, 3) := by decide +kernel
theorem dX5_total_12 : decode cX5_total 12 = .ok (.iload_n 1, 1) := by decide +kernel
theorem dX5_total_13 : decode cX5_total 13 = .ok (.aload_n 0, 1) := by decide +kernel
theorem dX5_total_14 : decode cX5_total 14 = .ok (.iload_n 2, 1) := by decide +kernel
theorem dX5_total_15 : decode cX5_total 15 = .ok (.invokestatic 15, 3) := by decide +kernel
theorem dX5_total_18 : decode cX5_total 18 = .ok (.iadd, 1) := by decide +kernel
theorem dX5_total_19 : decode cX5_total 19 = .ok (.istore_n 1, 1) := by decide +kernel
theorem dX5_total_20 : decode cX5_total 20 = .ok (.iinc 2 1, 3) := by decide +kernel
theorem dX5_total_23 : decode cX5_total 23 = .ok (.goto (-19), 3) := by decide +kernel
theorem dX5_total_26 : decode cX5_total 26 = .ok (.iload_n 1, 1) := by decide +kernel
theorem dX5_total_27 : decode cX5_total 27 = .ok (.ireturn, 1) := by decide +kernel
set_option maxRecDepth 20000 in
theorem ggX5_endingAt_X5_isSquare : GoodIn wsX5_endingAt wsX5_isSquare := goodIn_r _ [4, 5, 6, 7, 8, 9, 10, 11, 12, 13, 14, 15, 16, 17, 18, 19, 20, 21] (by decide +kernel) (by decide +kernel)
set_option maxRecDepth 20000 in
theorem gX5_endingAt_X5_isSquare : GoodIn wsX5_endingAt (va_wsS RX5 21 yX5_isSquare wsX5_isSquare) := goodIn_app (goodIn_of _ (by decide +kernel)) ggX5_endingAt_X5_isSquare
theorem dX5_endingAt_0 : decode cX5_endingAt 0 = .ok (.iconst 0, 1) := by decide +kernel
theorem dX5_endingAt_1 : decode cX5_endingAt 1 = .ok (.istore_n 2, 1) := by decide +kernel
theorem dX5_endingAt_2 : decode cX5_endingAt 2 = .ok (.iconst 1, 1) := by decide +kernel
theorem dX5_endingAt_3 : decode cX5_endingAt 3 = .ok (.istore_n 3, 1) := by decide +kernel
theorem dX5_endingAt_4 : decode cX5_endingAt 4 = .ok (.iconst 2, 1) := by decide +kernel
theorem dX5_endingAt_5 : decode cX5_endingAt 5 = .ok (.iload_n 3, 1) := by decide +kernel
theorem dX5_endingAt_6 : decode cX5_endingAt 6 = .ok (.imul, 1) := by decide +kernel
theorem dX5_endingAt_7 : decode cX5_endingAt 7 = .ok (.iload_n 1, 1) := by decide +kernel
theorem dX5_endingAt_8 : decode cX5_endingAt 8 = .ok (.if_icmp .gt 25, 3) := by decide +kernel
theorem dX5_endingAt_11 : decode cX5_endingAt 11 = .ok (.aload_n 0, 1) := by decide +kernel
theorem dX5_endingAt_12 : decode cX5_endingAt 12 = .ok (.iload_n 1, 1) := by decide +kernel
theorem dX5_endingAt_13 : decode cX5_endingAt 13 = .ok (.iconst 2, 1) := by decide +kernel
theorem dX5_endingAt_14 : decode cX5_endingAt 14 = .ok (.iload_n 3, 1) := by decide +kernel
theorem dX5_endingAt_15 : decode cX5_endingAt 15 = .ok (.imul, 1) := by decide +kernel
theorem dX5_endingAt_16 : decode cX5_endingAt 16 = .ok (.isub, 1) := by decide +kernel
theorem dX5_endingAt_17 : decode cX5_endingAt 17 = .ok (.iload_n 3, 1) := by decide +kernel
theorem dX5_endingAt_18 : decode cX5_endingAt 18 = .ok (.invokestatic 21, 3) := by decide +kernel
theorem dX5_endingAt_21 : decode cX5_endingAt 21 = .ok (.ifCond .eq 6, 3) := by decide +kernel
theorem dX5_endingAt_24 : decode cX5_endingAt 24 = .ok (.iinc 2 1, 3) := by decide +kernel
theorem dX5_endingAt_27 : decode cX5_endingAt 27 = .ok (.iinc 3 1, 3) := by decide +kernel
theorem dX5_endingAt_30 : decode cX5_endingAt 30 = .ok (.goto (-26), 3) := by decide +kernel
theorem dX5_endingAt_33 : decode cX5_endingAt 33 = .ok (.iload_n 2, 1) := by decide +kernel
theorem dX5_endingAt_34 : decode cX5_endingAt 34 = .ok (.ireturn, 1) := by decide +kernel
set_option maxRecDepth 20000 in
theorem ggX5_unlikeTotal_X8_length : GoodIn wsX5_unlikeTotal wsX8_length := goodIn_r _ [5, 6, 27, 28] (by decide +kernel) (by decide +kernel)
set_option maxRecDepth 20000 in
theorem gX5_unlikeTotal_X8_length : GoodIn wsX5_unlikeTotal (wsV RX5 9 RX8 yX8_length wsX8_length) := goodIn_app (goodIn_of _ (by decide +kernel)) ggX5_unlikeTotal_X8_length
set_option maxRecDepth 20000 in
theorem ggX5_unlikeTotal_X5_isSquare : GoodIn wsX5_unlikeTotal wsX5_isSquare := goodIn_r _ [10, 11, 12, 13, 4, 14, 6, 15, 16, 17, 18, 19, 20, 21, 22, 23, 27, 28] (by decide +kernel) (by decide +kernel)
set_option maxRecDepth 20000 in
theorem gX5_unlikeTotal_X5_isSquare : GoodIn wsX5_unlikeTotal (va_wsS RX5 21 yX5_isSquare wsX5_isSquare) := goodIn_app (goodIn_of _ (by decide +kernel)) ggX5_unlikeTotal_X5_isSquare
set_option maxRecDepth 20000 in
theorem ggX5_unlikeTotal_X5_isNew : GoodIn wsX5_unlikeTotal wsX5_isNew := goodIn_r _ [26, 11, 12, 13, 4, 14, 6, 15, 16, 17, 18, 19, 20, 21, 22, 23, 27, 28] (by decide +kernel) (by decide +kernel)
set_option maxRecDepth 20000 in
theorem gX5_unlikeTotal_X5_isNew : GoodIn wsX5_unlikeTotal (va_wsS RX5 25 yX5_isNew wsX5_isNew) := goodIn_app (goodIn_of _ (by decide +kernel)) ggX5_unlikeTotal_X5_isNew
theorem dX5_unlikeTotal_0 : decode cX5_unlikeTotal 0 = .ok (.iconst 0, 1) := by decide +kernel
theorem dX5_unlikeTotal_1 : decode cX5_unlikeTotal 1 = .ok (.istore_n 1, 1) := by decide +kernel
theorem dX5_unlikeTotal_2 : decode cX5_unlikeTotal 2 = .ok (.iconst 0, 1) := by decide +kernel
theorem dX5_unlikeTotal_3 : decode cX5_unlikeTotal 3 = .ok (.istore_n 2, 1) := by decide +kernel
theorem dX5_unlikeTotal_4 : decode cX5_unlikeTotal 4 = .ok (.iload_n 2, 1) := by decide +kernel
theorem dX5_unlikeTotal_5 : decode cX5_unlikeTotal 5 = .ok (.aload_n 0, 1) := by decide +kernel
theorem dX5_unlikeTotal_6 : decode cX5_unlikeTotal 6 = .ok (.invokevirtual 9, 3) := by decide +kernel
theorem dX5_unlikeTotal_9 : decode cX5_unlikeTotal 9 = .ok (.if_icmp .ge 52, 3) := by decide +kernel
theorem dX5_unlikeTotal_12 : decode cX5_unlikeTotal 12 = .ok (.iconst 1, 1) := by decide +kernel
theorem dX5_unlikeTotal_13 : decode cX5_unlikeTotal 13 = .ok (.istore_n 3, 1) := by decide +kernel
theorem dX5_unlikeTotal_14 : decode cX5_unlikeTotal 14 = .ok (.iload_n 2, 1) := by decide +kernel
theorem dX5_unlikeTotal_15 : decode cX5_unlikeTotal 15 = .ok (.iconst 2, 1) := by decide +kernel
theorem dX5_unlikeTotal_16 : decode cX5_unlikeTotal 16 = .ok (.iload_n 3, 1) := by decide +kernel
theorem dX5_unlikeTotal_17 : decode cX5_unlikeTotal 17 = .ok (.imul, 1) := by decide +kernel
theorem dX5_unlikeTotal_18 : decode cX5_unlikeTotal 18 = .ok (.iadd, 1) := by decide +kernel
theorem dX5_unlikeTotal_19 : decode cX5_unlikeTotal 19 = .ok (.aload_n 0, 1) := by decide +kernel
theorem dX5_unlikeTotal_20 : decode cX5_unlikeTotal 20 = .ok (.invokevirtual 9, 3) := by decide +kernel
theorem dX5_unlikeTotal_23 : decode cX5_unlikeTotal 23 = .ok (.if_icmp .gt 32, 3) := by decide +kernel
theorem dX5_unlikeTotal_26 : decode cX5_unlikeTotal 26 = .ok (.aload_n 0, 1) := by decide +kernel
theorem dX5_unlikeTotal_27 : decode cX5_unlikeTotal 27 = .ok (.iload_n 2, 1) := by decide +kernel
theorem dX5_unlikeTotal_28 : decode cX5_unlikeTotal 28 = .ok (.iload_n 3, 1) := by decide +kernel
theorem dX5_unlikeTotal_29 : decode cX5_unlikeTotal 29 = .ok (.invokestatic 21, 3) := by decide +kernel
theorem dX5_unlikeTotal_32 : decode cX5_unlikeTotal 32 = .ok (.ifCond .eq 17, 3) := by decide +kernel
theorem dX5_unlikeTotal_35 : decode cX5_unlikeTotal 35 = .ok (.aload_n 0, 1) := by decide +kernel
theorem dX5_unlikeTotal_36 : decode cX5_unlikeTotal 36 = .ok (.iload_n 2, 1) := by decide +kernel
theorem dX5_unlikeTotal_37 : decode cX5_unlikeTotal 37 = .ok (.iconst 2, 1) := by decide +kernel
theorem dX5_unlikeTotal_38 : decode cX5_unlikeTotal 38 = .ok (.iload_n 3, 1) := by decide +kernel
theorem dX5_unlikeTotal_39 : decode cX5_unlikeTotal 39 = .ok (.imul, 1) := by decide +kernel
theorem dX5_unlikeTotal_40 : decode cX5_unlikeTotal 40 = .ok (.invokestatic 25, 3) := by decide +kernel
theorem dX5_unlikeTotal_43 : decode cX5_unlikeTotal 43 = .ok (.ifCond .eq 6, 3) := by decide +kernel
theorem dX5_unlikeTotal_46 : decode cX5_unlikeTotal 46 = .ok (.iinc 1 1, 3) := by decide +kernel
theorem dX5_unlikeTotal_49 : decode cX5_unlikeTotal 49 = .ok (.iinc 3 1, 3) := by decide +kernel
theorem dX5_unlikeTotal_52 : decode cX5_unlikeTotal 52 = .ok (.goto (-38), 3) := by decide +kernel
theorem dX5_unlikeTotal_55 : decode cX5_unlikeTotal 55 = .ok (.iinc 2 1, 3) := by decide +kernel
theorem dX5_unlikeTotal_58 : decode cX5_unlikeTotal 58 = .ok (.goto (-54), 3) := by decide +kernel
theorem dX5_unlikeTotal_61 : decode cX5_unlikeTotal 61 = .ok (.iload_n 1, 1) := by decide +kernel
theorem dX5_unlikeTotal_62 : decode cX5_unlikeTotal 62 = .ok (.ireturn, 1) := by decide +kernel
set_option maxRecDepth 20000 in
theorem ggX5_ranked_X8_length : GoodIn wsX5_ranked wsX8_length := goodIn_r _ [5, 6, 24, 25] (by decide +kernel) (by decide +kernel)
set_option maxRecDepth 20000 in
theorem gX5_ranked_X8_length : GoodIn wsX5_ranked (wsV RX5 9 RX8 yX8_length wsX8_length) := goodIn_app (goodIn_of _ (by decide +kernel)) ggX5_ranked_X8_length
set_option maxRecDepth 20000 in
theorem ggX5_ranked_X5_isSquare : GoodIn wsX5_ranked wsX5_isSquare := goodIn_r _ [10, 11, 12, 13, 4, 14, 6, 15, 16, 17, 18, 19, 20, 21, 22, 23, 24, 25] (by decide +kernel) (by decide +kernel)
set_option maxRecDepth 20000 in
theorem gX5_ranked_X5_isSquare : GoodIn wsX5_ranked (va_wsS RX5 21 yX5_isSquare wsX5_isSquare) := goodIn_app (goodIn_of _ (by decide +kernel)) ggX5_ranked_X5_isSquare
theorem dX5_ranked_0 : decode cX5_ranked 0 = .ok (.iconst 0, 1) := by decide +kernel
theorem dX5_ranked_1 : decode cX5_ranked 1 = .ok (.istore_n 3, 1) := by decide +kernel
theorem dX5_ranked_2 : decode cX5_ranked 2 = .ok (.iconst 0, 1) := by decide +kernel
theorem dX5_ranked_3 : decode cX5_ranked 3 = .ok (.istore 4, 2) := by decide +kernel
theorem dX5_ranked_5 : decode cX5_ranked 5 = .ok (.iload 4, 2) := by decide +kernel
theorem dX5_ranked_7 : decode cX5_ranked 7 = .ok (.aload_n 0, 1) := by decide +kernel
theorem dX5_ranked_8 : decode cX5_ranked 8 = .ok (.invokevirtual 9, 3) := by decide +kernel
theorem dX5_ranked_11 : decode cX5_ranked 11 = .ok (.if_icmp .ge 63, 3) := by decide +kernel
theorem dX5_ranked_14 : decode cX5_ranked 14 = .ok (.iconst 1, 1) := by decide +kernel
theorem dX5_ranked_15 : decode cX5_ranked 15 = .ok (.istore 5, 2) := by decide +kernel
theorem dX5_ranked_17 : decode cX5_ranked 17 = .ok (.iload 4, 2) := by decide +kernel
theorem dX5_ranked_19 : decode cX5_ranked 19 = .ok (.iconst 2, 1) := by decide +kernel
theorem dX5_ranked_20 : decode cX5_ranked 20 = .ok (.iload 5, 2) := by decide +kernel
theorem dX5_ranked_22 : decode cX5_ranked 22 = .ok (.imul, 1) := by decide +kernel
theorem dX5_ranked_23 : decode cX5_ranked 23 = .ok (.iadd, 1) := by decide +kernel
theorem dX5_ranked_24 : decode cX5_ranked 24 = .ok (.aload_n 0, 1) := by decide +kernel
theorem dX5_ranked_25 : decode cX5_ranked 25 = .ok (.invokevirtual 9, 3) := by decide +kernel
theorem dX5_ranked_28 : decode cX5_ranked 28 = .ok (.if_icmp .gt 40, 3) := by decide +kernel
theorem dX5_ranked_31 : decode cX5_ranked 31 = .ok (.aload_n 0, 1) := by decide +kernel
theorem dX5_ranked_32 : decode cX5_ranked 32 = .ok (.iload 4, 2) := by decide +kernel
theorem dX5_ranked_34 : decode cX5_ranked 34 = .ok (.iload 5, 2) := by decide +kernel
theorem dX5_ranked_36 : decode cX5_ranked 36 = .ok (.invokestatic 21, 3) := by decide +kernel
theorem dX5_ranked_39 : decode cX5_ranked 39 = .ok (.ifCond .eq 23, 3) := by decide +kernel
theorem dX5_ranked_42 : decode cX5_ranked 42 = .ok (.iload_n 3, 1) := by decide +kernel
theorem dX5_ranked_43 : decode cX5_ranked 43 = .ok (.iload_n 1, 1) := by decide +kernel
theorem dX5_ranked_44 : decode cX5_ranked 44 = .ok (.if_icmp .ne 15, 3) := by decide +kernel
theorem dX5_ranked_47 : decode cX5_ranked 47 = .ok (.iload_n 2, 1) := by decide +kernel
theorem dX5_ranked_48 : decode cX5_ranked 48 = .ok (.ifCond .ne 8, 3) := by decide +kernel
theorem dX5_ranked_51 : decode cX5_ranked 51 = .ok (.iload 4, 2) := by decide +kernel
theorem dX5_ranked_53 : decode cX5_ranked 53 = .ok (.goto 5, 3) := by decide +kernel
theorem dX5_ranked_56 : decode cX5_ranked 56 = .ok (.iload 5, 2) := by decide +kernel
theorem dX5_ranked_58 : decode cX5_ranked 58 = .ok (.ireturn, 1) := by decide +kernel
theorem dX5_ranked_59 : decode cX5_ranked 59 = .ok (.iinc 3 1, 3) := by decide +kernel
theorem dX5_ranked_62 : decode cX5_ranked 62 = .ok (.iinc 5 1, 3) := by decide +kernel
theorem dX5_ranked_65 : decode cX5_ranked 65 = .ok (.goto (-48), 3) := by decide +kernel
theorem dX5_ranked_68 : decode cX5_ranked 68 = .ok (.iinc 4 1, 3) := by decide +kernel
theorem dX5_ranked_71 : decode cX5_ranked 71 = .ok (.goto (-66), 3) := by decide +kernel
theorem dX5_ranked_74 : decode cX5_ranked 74 = .ok (.bipush (-4), 2) := by decide +kernel
theorem dX5_ranked_76 : decode cX5_ranked 76 = .ok (.ireturn, 1) := by decide +kernel
set_option maxRecDepth 20000 in
theorem ggX5_isSquare_X8_alikeFrom : GoodIn wsX5_isSquare wsX8_alikeFrom := goodIn_r _ [5, 6, 7, 8, 9, 10, 11, 12, 13, 4, 14, 15, 16, 17] (by decide +kernel) (by decide +kernel)
set_option maxRecDepth 20000 in
theorem gX5_isSquare_X8_alikeFrom : GoodIn wsX5_isSquare (wsV RX5 28 RX8 yX8_alikeFrom wsX8_alikeFrom) := goodIn_app (goodIn_of _ (by decide +kernel)) ggX5_isSquare_X8_alikeFrom
theorem dX5_isSquare_0 : decode cX5_isSquare 0 = .ok (.aload_n 0, 1) := by decide +kernel
theorem dX5_isSquare_1 : decode cX5_isSquare 1 = .ok (.iload_n 1, 1) := by decide +kernel
theorem dX5_isSquare_2 : decode cX5_isSquare 2 = .ok (.iload_n 1, 1) := by decide +kernel
theorem dX5_isSquare_3 : decode cX5_isSquare 3 = .ok (.iload_n 2, 1) := by decide +kernel
theorem dX5_isSquare_4 : decode cX5_isSquare 4 = .ok (.iadd, 1) := by decide +kernel
theorem dX5_isSquare_5 : decode cX5_isSquare 5 = .ok (.invokevirtual 28, 3) := by decide +kernel
theorem dX5_isSquare_8 : decode cX5_isSquare 8 = .ok (.iload_n 2, 1) := by decide +kernel
theorem dX5_isSquare_9 : decode cX5_isSquare 9 = .ok (.if_icmp .lt 7, 3) := by decide +kernel
theorem dX5_isSquare_12 : decode cX5_isSquare 12 = .ok (.iconst 1, 1) := by decide +kernel
theorem dX5_isSquare_13 : decode cX5_isSquare 13 = .ok (.goto 4, 3) := by decide +kernel
theorem dX5_isSquare_16 : decode cX5_isSquare 16 = .ok (.iconst 0, 1) := by decide +kernel
theorem dX5_isSquare_17 : decode cX5_isSquare 17 = .ok (.ireturn, 1) := by decide +kernel
set_option maxRecDepth 20000 in
theorem ggX5_isNew_X8_alikeFrom : GoodIn wsX5_isNew wsX8_alikeFrom := goodIn_r _ [5, 6, 7, 8, 9, 10, 11, 12, 13, 4, 14, 15, 16, 17] (by decide +kernel) (by decide +kernel)
set_option maxRecDepth 20000 in
theorem gX5_isNew_X8_alikeFrom : GoodIn wsX5_isNew (wsV RX5 28 RX8 yX8_alikeFrom wsX8_alikeFrom) := goodIn_app (goodIn_of _ (by decide +kernel)) ggX5_isNew_X8_alikeFrom
theorem dX5_isNew_0 : decode cX5_isNew 0 = .ok (.iconst 0, 1) := by decide +kernel
theorem dX5_isNew_1 : decode cX5_isNew 1 = .ok (.istore_n 3, 1) := by decide +kernel
theorem dX5_isNew_2 : decode cX5_isNew 2 = .ok (.iload_n 3, 1) := by decide +kernel
theorem dX5_isNew_3 : decode cX5_isNew 3 = .ok (.iload_n 1, 1) := by decide +kernel
theorem dX5_isNew_4 : decode cX5_isNew 4 = .ok (.if_icmp .ge 21, 3) := by decide +kernel
theorem dX5_isNew_7 : decode cX5_isNew 7 = .ok (.aload_n 0, 1) := by decide +kernel
theorem dX5_isNew_8 : decode cX5_isNew 8 = .ok (.iload_n 3, 1) := by decide +kernel
theorem dX5_isNew_9 : decode cX5_isNew 9 = .ok (.iload_n 1, 1) := by decide +kernel
theorem dX5_isNew_10 : decode cX5_isNew 10 = .ok (.invokevirtual 28, 3) := by decide +kernel
theorem dX5_isNew_13 : decode cX5_isNew 13 = .ok (.iload_n 2, 1) := by decide +kernel
theorem dX5_isNew_14 : decode cX5_isNew 14 = .ok (.if_icmp .lt 5, 3) := by decide +kernel
theorem dX5_isNew_17 : decode cX5_isNew 17 = .ok (.iconst 0, 1) := by decide +kernel
theorem dX5_isNew_18 : decode cX5_isNew 18 = .ok (.ireturn, 1) := by decide +kernel
theorem dX5_isNew_19 : decode cX5_isNew 19 = .ok (.iinc 3 1, 3) := by decide +kernel
theorem dX5_isNew_22 : decode cX5_isNew 22 = .ok (.goto (-20), 3) := by decide +kernel
theorem dX5_isNew_25 : decode cX5_isNew 25 = .ok (.iconst 1, 1) := by decide +kernel
theorem dX5_isNew_26 : decode cX5_isNew 26 = .ok (.ireturn, 1) := by decide +kernel
set_option maxRecDepth 20000 in
theorem ggX6_rank_X8_length : GoodIn wsX6_rank wsX8_length := goodIn_r _ [5, 6, 25, 26] (by decide +kernel) (by decide +kernel)
set_option maxRecDepth 20000 in
theorem gX6_rank_X8_length : GoodIn wsX6_rank (wsV RX6 9 RX8 yX8_length wsX8_length) := goodIn_app (goodIn_of _ (by decide +kernel)) ggX6_rank_X8_length
set_option maxRecDepth 20000 in
theorem ggX6_rank_X6_isAhead : GoodIn wsX6_rank wsX6_isAhead := goodIn_r _ [10, 11, 12, 13, 4, 14, 6, 15, 16, 17, 18, 19, 20, 21, 22, 23, 24, 25, 26] (by decide +kernel) (by decide +kernel)
set_option maxRecDepth 20000 in
theorem gX6_rank_X6_isAhead : GoodIn wsX6_rank (va_wsS RX6 15 yX6_isAhead wsX6_isAhead) := goodIn_app (goodIn_of _ (by decide +kernel)) ggX6_rank_X6_isAhead
theorem dX6_rank_0 : decode cX6_rank 0 = .ok (.iconst 0, 1) := by decide +kernel
theorem dX6_rank_1 : decode cX6_rank 1 = .ok (.istore_n 2, 1) := by decide +kernel
theorem dX6_rank_2 : decode cX6_rank 2 = .ok (.iconst 0, 1) := by decide +kernel
theorem dX6_rank_3 : decode cX6_rank 3 = .ok (.istore_n 3, 1) := by decide +kernel
theorem dX6_rank_4 : decode cX6_rank 4 = .ok (.iload_n 3, 1) := by decide +kernel
theorem dX6_rank_5 : decode cX6_rank 5 = .ok (.aload_n 0, 1) := by decide +kernel
theorem dX6_rank_6 : decode cX6_rank 6 = .ok (.invokevirtual 9, 3) := by decide +kernel
