theorem dX10_classes_58 : decode cX10_classes 58 = .ok (.iinc 3 1, 3) := by decide +kernel
theorem dX10_classes_61 : decode cX10_classes 61 = .ok (.goto (-43), 3) := by decide +kernel
theorem dX10_classes_64 : decode cX10_classes 64 = .ok (.iinc 2 1, 3) := by decide +kernel
theorem dX10_classes_67 : decode cX10_classes 67 = .ok (.goto (-63), 3) := by decide +kernel
theorem dX10_classes_70 : decode cX10_classes 70 = .ok (.iload_n 1, 1) := by decide +kernel
theorem dX10_classes_71 : decode cX10_classes 71 = .ok (.ireturn, 1) := by decide +kernel
set_option maxRecDepth 20000 in
theorem ggX10_isSquare_X10_areSame : GoodIn wsX10_isSquare wsX10_areSame := goodIn_r _ [6, 7, 8, 9, 5, 10, 1, 11, 12, 13, 14, 15, 16] (by decide +kernel) (by decide +kernel)
set_option maxRecDepth 20000 in
theorem gX10_isSquare_X10_areSame : GoodIn wsX10_isSquare (wsV RX10 36 RX10 yX10_areSame wsX10_areSame) := goodIn_app (goodIn_of _ (by decide +kernel)) ggX10_isSquare_X10_areSame
theorem dX10_isSquare_0 : decode cX10_isSquare 0 = .ok (.iload_n 2, 1) := by decide +kernel
theorem dX10_isSquare_1 : decode cX10_isSquare 1 = .ok (.iconst 2, 1) := by decide +kernel
theorem dX10_isSquare_2 : decode cX10_isSquare 2 = .ok (.iload_n 3, 1) := by decide +kernel
theorem dX10_isSquare_3 : decode cX10_isSquare 3 = .ok (.imul, 1) := by decide +kernel
theorem dX10_isSquare_4 : decode cX10_isSquare 4 = .ok (.iadd, 1) := by decide +kernel
theorem dX10_isSquare_5 : decode cX10_isSquare 5 = .ok (.aload_n 0, 1) := by decide +kernel
theorem dX10_isSquare_6 : decode cX10_isSquare 6 = .ok (.getfield 7, 3) := by decide +kernel
theorem dX10_isSquare_9 : decode cX10_isSquare 9 = .ok (.iload_n 1, 1) := by decide +kernel
theorem dX10_isSquare_10 : decode cX10_isSquare 10 = .ok (.iaload, 1) := by decide +kernel
theorem dX10_isSquare_11 : decode cX10_isSquare 11 = .ok (.if_icmp .gt 20, 3) := by decide +kernel
theorem dX10_isSquare_14 : decode cX10_isSquare 14 = .ok (.aload_n 0, 1) := by decide +kernel
theorem dX10_isSquare_15 : decode cX10_isSquare 15 = .ok (.iload_n 1, 1) := by decide +kernel
theorem dX10_isSquare_16 : decode cX10_isSquare 16 = .ok (.iload_n 2, 1) := by decide +kernel
theorem dX10_isSquare_17 : decode cX10_isSquare 17 = .ok (.iload_n 2, 1) := by decide +kernel
theorem dX10_isSquare_18 : decode cX10_isSquare 18 = .ok (.iload_n 3, 1) := by decide +kernel
theorem dX10_isSquare_19 : decode cX10_isSquare 19 = .ok (.iadd, 1) := by decide +kernel
theorem dX10_isSquare_20 : decode cX10_isSquare 20 = .ok (.iload_n 3, 1) := by decide +kernel
theorem dX10_isSquare_21 : decode cX10_isSquare 21 = .ok (.invokevirtual 36, 3) := by decide +kernel
theorem dX10_isSquare_24 : decode cX10_isSquare 24 = .ok (.ifCond .eq 7, 3) := by decide +kernel
theorem dX10_isSquare_27 : decode cX10_isSquare 27 = .ok (.iconst 1, 1) := by decide +kernel
theorem dX10_isSquare_28 : decode cX10_isSquare 28 = .ok (.goto 4, 3) := by decide +kernel
theorem dX10_isSquare_31 : decode cX10_isSquare 31 = .ok (.iconst 0, 1) := by decide +kernel
theorem dX10_isSquare_32 : decode cX10_isSquare 32 = .ok (.ireturn, 1) := by decide +kernel
set_option maxRecDepth 20000 in
theorem ggX10_squares_X10_isSquare : GoodIn wsX10_squares wsX10_isSquare := goodIn_r _ [6, 1, 7, 8, 9, 5, 10, 11, 12, 13, 14, 15, 16, 17, 18, 19, 20] (by decide +kernel) (by decide +kernel)
set_option maxRecDepth 20000 in
theorem gX10_squares_X10_isSquare : GoodIn wsX10_squares (wsV RX10 54 RX10 yX10_isSquare wsX10_isSquare) := goodIn_app (goodIn_of _ (by decide +kernel)) ggX10_squares_X10_isSquare
theorem dX10_squares_0 : decode cX10_squares 0 = .ok (.iconst 0, 1) := by decide +kernel
theorem dX10_squares_1 : decode cX10_squares 1 = .ok (.istore_n 3, 1) := by decide +kernel
theorem dX10_squares_2 : decode cX10_squares 2 = .ok (.iconst 0, 1) := by decide +kernel
theorem dX10_squares_3 : decode cX10_squares 3 = .ok (.istore 4, 2) := by decide +kernel
theorem dX10_squares_5 : decode cX10_squares 5 = .ok (.iload 4, 2) := by decide +kernel
theorem dX10_squares_7 : decode cX10_squares 7 = .ok (.aload_n 0, 1) := by decide +kernel
theorem dX10_squares_8 : decode cX10_squares 8 = .ok (.getfield 7, 3) := by decide +kernel
theorem dX10_squares_11 : decode cX10_squares 11 = .ok (.iload_n 1, 1) := by decide +kernel
theorem dX10_squares_12 : decode cX10_squares 12 = .ok (.iaload, 1) := by decide +kernel
theorem dX10_squares_13 : decode cX10_squares 13 = .ok (.if_icmp .ge 69, 3) := by decide +kernel
theorem dX10_squares_16 : decode cX10_squares 16 = .ok (.iconst 1, 1) := by decide +kernel
theorem dX10_squares_17 : decode cX10_squares 17 = .ok (.istore 5, 2) := by decide +kernel
theorem dX10_squares_19 : decode cX10_squares 19 = .ok (.iload 4, 2) := by decide +kernel
theorem dX10_squares_21 : decode cX10_squares 21 = .ok (.iconst 2, 1) := by decide +kernel
theorem dX10_squares_22 : decode cX10_squares 22 = .ok (.iload 5, 2) := by decide +kernel
theorem dX10_squares_24 : decode cX10_squares 24 = .ok (.imul, 1) := by decide +kernel
theorem dX10_squares_25 : decode cX10_squares 25 = .ok (.iadd, 1) := by decide +kernel
theorem dX10_squares_26 : decode cX10_squares 26 = .ok (.aload_n 0, 1) := by decide +kernel
theorem dX10_squares_27 : decode cX10_squares 27 = .ok (.getfield 7, 3) := by decide +kernel
theorem dX10_squares_30 : decode cX10_squares 30 = .ok (.iload_n 1, 1) := by decide +kernel
theorem dX10_squares_31 : decode cX10_squares 31 = .ok (.iaload, 1) := by decide +kernel
theorem dX10_squares_32 : decode cX10_squares 32 = .ok (.if_icmp .gt 44, 3) := by decide +kernel
theorem dX10_squares_35 : decode cX10_squares 35 = .ok (.iload_n 3, 1) := by decide +kernel
theorem dX10_squares_36 : decode cX10_squares 36 = .ok (.iload_n 2, 1) := by decide +kernel
theorem dX10_squares_37 : decode cX10_squares 37 = .ok (.ifCond .lt 14, 3) := by decide +kernel
theorem dX10_squares_40 : decode cX10_squares 40 = .ok (.iload 4, 2) := by decide +kernel
theorem dX10_squares_42 : decode cX10_squares 42 = .ok (.iconst 2, 1) := by decide +kernel
theorem dX10_squares_43 : decode cX10_squares 43 = .ok (.iload 5, 2) := by decide +kernel
theorem dX10_squares_45 : decode cX10_squares 45 = .ok (.imul, 1) := by decide +kernel
theorem dX10_squares_46 : decode cX10_squares 46 = .ok (.iadd, 1) := by decide +kernel
theorem dX10_squares_47 : decode cX10_squares 47 = .ok (.iload_n 2, 1) := by decide +kernel
theorem dX10_squares_48 : decode cX10_squares 48 = .ok (.if_icmp .ne 19, 3) := by decide +kernel
theorem dX10_squares_51 : decode cX10_squares 51 = .ok (.aload_n 0, 1) := by decide +kernel
theorem dX10_squares_52 : decode cX10_squares 52 = .ok (.iload_n 1, 1) := by decide +kernel
theorem dX10_squares_53 : decode cX10_squares 53 = .ok (.iload 4, 2) := by decide +kernel
theorem dX10_squares_55 : decode cX10_squares 55 = .ok (.iload 5, 2) := by decide +kernel
theorem dX10_squares_57 : decode cX10_squares 57 = .ok (.invokevirtual 54, 3) := by decide +kernel
theorem dX10_squares_60 : decode cX10_squares 60 = .ok (.ifCond .eq 7, 3) := by decide +kernel
theorem dX10_squares_63 : decode cX10_squares 63 = .ok (.iconst 1, 1) := by decide +kernel
theorem dX10_squares_64 : decode cX10_squares 64 = .ok (.goto 4, 3) := by decide +kernel
theorem dX10_squares_67 : decode cX10_squares 67 = .ok (.iconst 0, 1) := by decide +kernel
theorem dX10_squares_68 : decode cX10_squares 68 = .ok (.iadd, 1) := by decide +kernel
theorem dX10_squares_69 : decode cX10_squares 69 = .ok (.istore_n 3, 1) := by decide +kernel
theorem dX10_squares_70 : decode cX10_squares 70 = .ok (.iinc 5 1, 3) := by decide +kernel
theorem dX10_squares_73 : decode cX10_squares 73 = .ok (.goto (-54), 3) := by decide +kernel
theorem dX10_squares_76 : decode cX10_squares 76 = .ok (.iinc 4 1, 3) := by decide +kernel
theorem dX10_squares_79 : decode cX10_squares 79 = .ok (.goto (-74), 3) := by decide +kernel
theorem dX10_squares_82 : decode cX10_squares 82 = .ok (.iload_n 3, 1) := by decide +kernel
theorem dX10_squares_83 : decode cX10_squares 83 = .ok (.ireturn, 1) := by decide +kernel
set_option maxRecDepth 20000 in
theorem ggX10_unlikeSquares_X10_isSquare : GoodIn wsX10_unlikeSquares wsX10_isSquare := goodIn_r _ [6, 1, 7, 8, 9, 5, 10, 11, 12, 13, 14, 19, 20, 21, 22, 23, 24] (by decide +kernel) (by decide +kernel)
set_option maxRecDepth 20000 in
theorem gX10_unlikeSquares_X10_isSquare : GoodIn wsX10_unlikeSquares (wsV RX10 54 RX10 yX10_isSquare wsX10_isSquare) := goodIn_app (goodIn_of _ (by decide +kernel)) ggX10_unlikeSquares_X10_isSquare
set_option maxRecDepth 20000 in
theorem ggX10_unlikeSquares_X10_isFirst : GoodIn wsX10_unlikeSquares wsX10_isFirst := goodIn_r _ [18, 7, 8, 9, 5, 10, 11, 12, 13, 14, 1, 19, 20, 21, 22, 23, 24] (by decide +kernel) (by decide +kernel)
set_option maxRecDepth 20000 in
theorem gX10_unlikeSquares_X10_isFirst : GoodIn wsX10_unlikeSquares (wsV RX10 48 RX10 yX10_isFirst wsX10_isFirst) := goodIn_app (goodIn_of _ (by decide +kernel)) ggX10_unlikeSquares_X10_isFirst
theorem dX10_unlikeSquares_0 : decode cX10_unlikeSquares 0 = .ok (.iconst 0, 1) := by decide +kernel
theorem dX10_unlikeSquares_1 : decode cX10_unlikeSquares 1 = .ok (.istore_n 1, 1) := by decide +kernel
theorem dX10_unlikeSquares_2 : decode cX10_unlikeSquares 2 = .ok (.iconst 0, 1) := by decide +kernel
theorem dX10_unlikeSquares_3 : decode cX10_unlikeSquares 3 = .ok (.istore_n 2, 1) := by decide +kernel
theorem dX10_unlikeSquares_4 : decode cX10_unlikeSquares 4 = .ok (.iload_n 2, 1) := by decide +kernel
theorem dX10_unlikeSquares_5 : decode cX10_unlikeSquares 5 = .ok (.aload_n 0, 1) := by decide +kernel
theorem dX10_unlikeSquares_6 : decode cX10_unlikeSquares 6 = .ok (.getfield 7, 3) := by decide +kernel
theorem dX10_unlikeSquares_9 : decode cX10_unlikeSquares 9 = .ok (.iconst 0, 1) := by decide +kernel
theorem dX10_unlikeSquares_10 : decode cX10_unlikeSquares 10 = .ok (.iaload, 1) := by decide +kernel
theorem dX10_unlikeSquares_11 : decode cX10_unlikeSquares 11 = .ok (.if_icmp .ge 63, 3) := by decide +kernel
theorem dX10_unlikeSquares_14 : decode cX10_unlikeSquares 14 = .ok (.iconst 1, 1) := by decide +kernel
theorem dX10_unlikeSquares_15 : decode cX10_unlikeSquares 15 = .ok (.istore_n 3, 1) := by decide +kernel
theorem dX10_unlikeSquares_16 : decode cX10_unlikeSquares 16 = .ok (.iload_n 2, 1) := by decide +kernel
theorem dX10_unlikeSquares_17 : decode cX10_unlikeSquares 17 = .ok (.iconst 2, 1) := by decide +kernel
theorem dX10_unlikeSquares_18 : decode cX10_unlikeSquares 18 = .ok (.iload_n 3, 1) := by decide +kernel
theorem dX10_unlikeSquares_19 : decode cX10_unlikeSquares 19 = .ok (.imul, 1) := by decide +kernel
theorem dX10_unlikeSquares_20 : decode cX10_unlikeSquares 20 = .ok (.iadd, 1) := by decide +kernel
theorem dX10_unlikeSquares_21 : decode cX10_unlikeSquares 21 = .ok (.aload_n 0, 1) := by decide +kernel
theorem dX10_unlikeSquares_22 : decode cX10_unlikeSquares 22 = .ok (.getfield 7, 3) := by decide +kernel
theorem dX10_unlikeSquares_25 : decode cX10_unlikeSquares 25 = .ok (.iconst 0, 1) := by decide +kernel
theorem dX10_unlikeSquares_26 : decode cX10_unlikeSquares 26 = .ok (.iaload, 1) := by decide +kernel
theorem dX10_unlikeSquares_27 : decode cX10_unlikeSquares 27 = .ok (.if_icmp .gt 41, 3) := by decide +kernel
theorem dX10_unlikeSquares_30 : decode cX10_unlikeSquares 30 = .ok (.iload_n 1, 1) := by decide +kernel
theorem dX10_unlikeSquares_31 : decode cX10_unlikeSquares 31 = .ok (.aload_n 0, 1) := by decide +kernel
theorem dX10_unlikeSquares_32 : decode cX10_unlikeSquares 32 = .ok (.iconst 0, 1) := by decide +kernel
theorem dX10_unlikeSquares_33 : decode cX10_unlikeSquares 33 = .ok (.iload_n 2, 1) := by decide +kernel
theorem dX10_unlikeSquares_34 : decode cX10_unlikeSquares 34 = .ok (.iload_n 3, 1) := by decide +kernel
theorem dX10_unlikeSquares_35 : decode cX10_unlikeSquares 35 = .ok (.invokevirtual 54, 3) := by decide +kernel
theorem dX10_unlikeSquares_38 : decode cX10_unlikeSquares 38 = .ok (.ifCond .eq 21, 3) := by decide +kernel
theorem dX10_unlikeSquares_41 : decode cX10_unlikeSquares 41 = .ok (.aload_n 0, 1) := by decide +kernel
theorem dX10_unlikeSquares_42 : decode cX10_unlikeSquares 42 = .ok (.iconst 0, 1) := by decide +kernel
theorem dX10_unlikeSquares_43 : decode cX10_unlikeSquares 43 = .ok (.iload_n 2, 1) := by decide +kernel
theorem dX10_unlikeSquares_44 : decode cX10_unlikeSquares 44 = .ok (.iload_n 2, 1) := by decide +kernel
theorem dX10_unlikeSquares_45 : decode cX10_unlikeSquares 45 = .ok (.iconst 2, 1) := by decide +kernel
theorem dX10_unlikeSquares_46 : decode cX10_unlikeSquares 46 = .ok (.iload_n 3, 1) := by decide +kernel
theorem dX10_unlikeSquares_47 : decode cX10_unlikeSquares 47 = .ok (.imul, 1) := by decide +kernel
theorem dX10_unlikeSquares_48 : decode cX10_unlikeSquares 48 = .ok (.iadd, 1) := by decide +kernel
theorem dX10_unlikeSquares_49 : decode cX10_unlikeSquares 49 = .ok (.invokevirtual 48, 3) := by decide +kernel
theorem dX10_unlikeSquares_52 : decode cX10_unlikeSquares 52 = .ok (.ifCond .eq 7, 3) := by decide +kernel
theorem dX10_unlikeSquares_55 : decode cX10_unlikeSquares 55 = .ok (.iconst 1, 1) := by decide +kernel
theorem dX10_unlikeSquares_56 : decode cX10_unlikeSquares 56 = .ok (.goto 4, 3) := by decide +kernel
theorem dX10_unlikeSquares_59 : decode cX10_unlikeSquares 59 = .ok (.iconst 0, 1) := by decide +kernel
theorem dX10_unlikeSquares_60 : decode cX10_unlikeSquares 60 = .ok (.iadd, 1) := by decide +kernel
theorem dX10_unlikeSquares_61 : decode cX10_unlikeSquares 61 = .ok (.istore_n 1, 1) := by decide +kernel
theorem dX10_unlikeSquares_62 : decode cX10_unlikeSquares 62 = .ok (.iinc 3 1, 3) := by decide +kernel
theorem dX10_unlikeSquares_65 : decode cX10_unlikeSquares 65 = .ok (.goto (-49), 3) := by decide +kernel
theorem dX10_unlikeSquares_68 : decode cX10_unlikeSquares 68 = .ok (.iinc 2 1, 3) := by decide +kernel
theorem dX10_unlikeSquares_71 : decode cX10_unlikeSquares 71 = .ok (.goto (-67), 3) := by decide +kernel
theorem dX10_unlikeSquares_74 : decode cX10_unlikeSquares 74 = .ok (.iload_n 1, 1) := by decide +kernel
theorem dX10_unlikeSquares_75 : decode cX10_unlikeSquares 75 = .ok (.ireturn, 1) := by decide +kernel
set_option maxRecDepth 20000 in
theorem ggX10_runEnd_X10_letAt : GoodIn wsX10_runEnd wsX10_letAt := goodIn_r _ [6, 1, 19, 20, 21, 22, 23, 24] (by decide +kernel) (by decide +kernel)
set_option maxRecDepth 20000 in
theorem gX10_runEnd_X10_letAt : GoodIn wsX10_runEnd (wsV RX10 32 RX10 yX10_letAt wsX10_letAt) := goodIn_app (goodIn_of _ (by decide +kernel)) ggX10_runEnd_X10_letAt
set_option maxRecDepth 20000 in
theorem ggX10_runEnd_X10_period : GoodIn wsX10_runEnd wsX10_period := goodIn_r _ [10, 11, 12, 13, 5, 14, 15, 16, 17, 18, 2, 3, 4, 6, 1, 19, 20, 21, 22, 23, 24] (by decide +kernel) (by decide +kernel)
set_option maxRecDepth 20000 in
theorem gX10_runEnd_X10_period : GoodIn wsX10_runEnd (wsV RX10 57 RX10 yX10_period wsX10_period) := goodIn_app (goodIn_of _ (by decide +kernel)) ggX10_runEnd_X10_period
theorem dX10_runEnd_0 : decode cX10_runEnd 0 = .ok (.iload_n 2, 1) := by decide +kernel
theorem dX10_runEnd_1 : decode cX10_runEnd 1 = .ok (.ifCond .le 40, 3) := by decide +kernel
theorem dX10_runEnd_4 : decode cX10_runEnd 4 = .ok (.iload_n 2, 1) := by decide +kernel
theorem dX10_runEnd_5 : decode cX10_runEnd 5 = .ok (.iconst 1, 1) := by decide +kernel
theorem dX10_runEnd_6 : decode cX10_runEnd 6 = .ok (.isub, 1) := by decide +kernel
theorem dX10_runEnd_7 : decode cX10_runEnd 7 = .ok (.iload_n 3, 1) := by decide +kernel
theorem dX10_runEnd_8 : decode cX10_runEnd 8 = .ok (.iadd, 1) := by decide +kernel
theorem dX10_runEnd_9 : decode cX10_runEnd 9 = .ok (.aload_n 0, 1) := by decide +kernel
theorem dX10_runEnd_10 : decode cX10_runEnd 10 = .ok (.getfield 7, 3) := by decide +kernel
theorem dX10_runEnd_13 : decode cX10_runEnd 13 = .ok (.iload_n 1, 1) := by decide +kernel
theorem dX10_runEnd_14 : decode cX10_runEnd 14 = .ok (.iaload, 1) := by decide +kernel
theorem dX10_runEnd_15 : decode cX10_runEnd 15 = .ok (.if_icmp .ge 26, 3) := by decide +kernel
theorem dX10_runEnd_18 : decode cX10_runEnd 18 = .ok (.aload_n 0, 1) := by decide +kernel
theorem dX10_runEnd_19 : decode cX10_runEnd 19 = .ok (.iload_n 1, 1) := by decide +kernel
theorem dX10_runEnd_20 : decode cX10_runEnd 20 = .ok (.iload_n 2, 1) := by decide +kernel
theorem dX10_runEnd_21 : decode cX10_runEnd 21 = .ok (.iconst 1, 1) := by decide +kernel
theorem dX10_runEnd_22 : decode cX10_runEnd 22 = .ok (.isub, 1) := by decide +kernel
theorem dX10_runEnd_23 : decode cX10_runEnd 23 = .ok (.invokevirtual 32, 3) := by decide +kernel
theorem dX10_runEnd_26 : decode cX10_runEnd 26 = .ok (.aload_n 0, 1) := by decide +kernel
theorem dX10_runEnd_27 : decode cX10_runEnd 27 = .ok (.iload_n 1, 1) := by decide +kernel
theorem dX10_runEnd_28 : decode cX10_runEnd 28 = .ok (.iload_n 2, 1) := by decide +kernel
theorem dX10_runEnd_29 : decode cX10_runEnd 29 = .ok (.iconst 1, 1) := by decide +kernel
theorem dX10_runEnd_30 : decode cX10_runEnd 30 = .ok (.isub, 1) := by decide +kernel
theorem dX10_runEnd_31 : decode cX10_runEnd 31 = .ok (.iload_n 3, 1) := by decide +kernel
theorem dX10_runEnd_32 : decode cX10_runEnd 32 = .ok (.iadd, 1) := by decide +kernel
theorem dX10_runEnd_33 : decode cX10_runEnd 33 = .ok (.invokevirtual 32, 3) := by decide +kernel
theorem dX10_runEnd_36 : decode cX10_runEnd 36 = .ok (.if_icmp .ne 5, 3) := by decide +kernel
theorem dX10_runEnd_39 : decode cX10_runEnd 39 = .ok (.iconst 0, 1) := by decide +kernel
theorem dX10_runEnd_40 : decode cX10_runEnd 40 = .ok (.ireturn, 1) := by decide +kernel
theorem dX10_runEnd_41 : decode cX10_runEnd 41 = .ok (.iload_n 2, 1) := by decide +kernel
theorem dX10_runEnd_42 : decode cX10_runEnd 42 = .ok (.iload_n 3, 1) := by decide +kernel
theorem dX10_runEnd_43 : decode cX10_runEnd 43 = .ok (.iadd, 1) := by decide +kernel
theorem dX10_runEnd_44 : decode cX10_runEnd 44 = .ok (.istore 4, 2) := by decide +kernel
theorem dX10_runEnd_46 : decode cX10_runEnd 46 = .ok (.iload 4, 2) := by decide +kernel
theorem dX10_runEnd_48 : decode cX10_runEnd 48 = .ok (.aload_n 0, 1) := by decide +kernel
theorem dX10_runEnd_49 : decode cX10_runEnd 49 = .ok (.getfield 7, 3) := by decide +kernel
theorem dX10_runEnd_52 : decode cX10_runEnd 52 = .ok (.iload_n 1, 1) := by decide +kernel
theorem dX10_runEnd_53 : decode cX10_runEnd 53 = .ok (.iaload, 1) := by decide +kernel
theorem dX10_runEnd_54 : decode cX10_runEnd 54 = .ok (.if_icmp .ge 28, 3) := by decide +kernel
theorem dX10_runEnd_57 : decode cX10_runEnd 57 = .ok (.aload_n 0, 1) := by decide +kernel
theorem dX10_runEnd_58 : decode cX10_runEnd 58 = .ok (.iload_n 1, 1) := by decide +kernel
theorem dX10_runEnd_59 : decode cX10_runEnd 59 = .ok (.iload 4, 2) := by decide +kernel
theorem dX10_runEnd_61 : decode cX10_runEnd 61 = .ok (.invokevirtual 32, 3) := by decide +kernel
theorem dX10_runEnd_64 : decode cX10_runEnd 64 = .ok (.aload_n 0, 1) := by decide +kernel
theorem dX10_runEnd_65 : decode cX10_runEnd 65 = .ok (.iload_n 1, 1) := by decide +kernel
theorem dX10_runEnd_66 : decode cX10_runEnd 66 = .ok (.iload 4, 2) := by decide +kernel
theorem dX10_runEnd_68 : decode cX10_runEnd 68 = .ok (.iload_n 3, 1) := by decide +kernel
theorem dX10_runEnd_69 : decode cX10_runEnd 69 = .ok (.isub, 1) := by decide +kernel
theorem dX10_runEnd_70 : decode cX10_runEnd 70 = .ok (.invokevirtual 32, 3) := by decide +kernel
theorem dX10_runEnd_73 : decode cX10_runEnd 73 = .ok (.if_icmp .ne 9, 3) := by decide +kernel
theorem dX10_runEnd_76 : decode cX10_runEnd 76 = .ok (.iinc 4 1, 3) := by decide +kernel
theorem dX10_runEnd_79 : decode cX10_runEnd 79 = .ok (.goto (-33), 3) := by decide +kernel
theorem dX10_runEnd_82 : decode cX10_runEnd 82 = .ok (.iload 4, 2) := by decide +kernel
theorem dX10_runEnd_84 : decode cX10_runEnd 84 = .ok (.aload_n 0, 1) := by decide +kernel
theorem dX10_runEnd_85 : decode cX10_runEnd 85 = .ok (.getfield 7, 3) := by decide +kernel
theorem dX10_runEnd_88 : decode cX10_runEnd 88 = .ok (.iload_n 1, 1) := by decide +kernel
theorem dX10_runEnd_89 : decode cX10_runEnd 89 = .ok (.iaload, 1) := by decide +kernel
theorem dX10_runEnd_90 : decode cX10_runEnd 90 = .ok (.if_icmp .gt 30, 3) := by decide +kernel
theorem dX10_runEnd_93 : decode cX10_runEnd 93 = .ok (.iload 4, 2) := by decide +kernel
theorem dX10_runEnd_95 : decode cX10_runEnd 95 = .ok (.iload_n 2, 1) := by decide +kernel
theorem dX10_runEnd_96 : decode cX10_runEnd 96 = .ok (.iconst 2, 1) := by decide +kernel
theorem dX10_runEnd_97 : decode cX10_runEnd 97 = .ok (.iload_n 3, 1) := by decide +kernel
theorem dX10_runEnd_98 : decode cX10_runEnd 98 = .ok (.imul, 1) := by decide +kernel
theorem dX10_runEnd_99 : decode cX10_runEnd 99 = .ok (.iadd, 1) := by decide +kernel
theorem dX10_runEnd_100 : decode cX10_runEnd 100 = .ok (.if_icmp .lt 20, 3) := by decide +kernel
theorem dX10_runEnd_103 : decode cX10_runEnd 103 = .ok (.aload_n 0, 1) := by decide +kernel
theorem dX10_runEnd_104 : decode cX10_runEnd 104 = .ok (.iload_n 1, 1) := by decide +kernel
theorem dX10_runEnd_105 : decode cX10_runEnd 105 = .ok (.iload_n 2, 1) := by decide +kernel
theorem dX10_runEnd_106 : decode cX10_runEnd 106 = .ok (.iload 4, 2) := by decide +kernel
theorem dX10_runEnd_108 : decode cX10_runEnd 108 = .ok (.invokevirtual 57, 3) := by decide +kernel
theorem dX10_runEnd_111 : decode cX10_runEnd 111 = .ok (.iload_n 3, 1) := by decide +kernel
theorem dX10_runEnd_112 : decode cX10_runEnd 112 = .ok (.if_icmp .ne 8, 3) := by decide +kernel
theorem dX10_runEnd_115 : decode cX10_runEnd 115 = .ok (.iload 4, 2) := by decide +kernel
theorem dX10_runEnd_117 : decode cX10_runEnd 117 = .ok (.goto 4, 3) := by decide +kernel
theorem dX10_runEnd_120 : decode cX10_runEnd 120 = .ok (.iconst 0, 1) := by decide +kernel
theorem dX10_runEnd_121 : decode cX10_runEnd 121 = .ok (.ireturn, 1) := by decide +kernel
set_option maxRecDepth 20000 in
theorem ggX10_runs_X10_runEnd : GoodIn wsX10_runs wsX10_runEnd := goodIn_r _ [6, 1, 7, 8, 9, 5, 10, 11, 12, 13, 14, 15, 16, 17, 18, 19, 20, 21, 22, 23, 24, 25, 26, 27, 28] (by decide +kernel) (by decide +kernel)
set_option maxRecDepth 20000 in
theorem gX10_runs_X10_runEnd : GoodIn wsX10_runs (wsV RX10 61 RX10 yX10_runEnd wsX10_runEnd) := goodIn_app (goodIn_of _ (by decide +kernel)) ggX10_runs_X10_runEnd
theorem dX10_runs_0 : decode cX10_runs 0 = .ok (.iconst 0, 1) := by decide +kernel
theorem dX10_runs_1 : decode cX10_runs 1 = .ok (.istore_n 2, 1) := by decide +kernel
theorem dX10_runs_2 : decode cX10_runs 2 = .ok (.iconst 0, 1) := by decide +kernel
theorem dX10_runs_3 : decode cX10_runs 3 = .ok (.istore_n 3, 1) := by decide +kernel
theorem dX10_runs_4 : decode cX10_runs 4 = .ok (.iload_n 3, 1) := by decide +kernel
theorem dX10_runs_5 : decode cX10_runs 5 = .ok (.aload_n 0, 1) := by decide +kernel
theorem dX10_runs_6 : decode cX10_runs 6 = .ok (.getfield 7, 3) := by decide +kernel
theorem dX10_runs_9 : decode cX10_runs 9 = .ok (.iload_n 1, 1) := by decide +kernel
theorem dX10_runs_10 : decode cX10_runs 10 = .ok (.iaload, 1) := by decide +kernel
theorem dX10_runs_11 : decode cX10_runs 11 = .ok (.if_icmp .ge 52, 3) := by decide +kernel
theorem dX10_runs_14 : decode cX10_runs 14 = .ok (.iconst 1, 1) := by decide +kernel
theorem dX10_runs_15 : decode cX10_runs 15 = .ok (.istore 4, 2) := by decide +kernel
theorem dX10_runs_17 : decode cX10_runs 17 = .ok (.iload_n 3, 1) := by decide +kernel
theorem dX10_runs_18 : decode cX10_runs 18 = .ok (.iconst 2, 1) := by decide +kernel
theorem dX10_runs_19 : decode cX10_runs 19 = .ok (.iload 4, 2) := by decide +kernel
theorem dX10_runs_21 : decode cX10_runs 21 = .ok (.imul, 1) := by decide +kernel
theorem dX10_runs_22 : decode cX10_runs 22 = .ok (.iadd, 1) := by decide +kernel
theorem dX10_runs_23 : decode cX10_runs 23 = .ok (.aload_n 0, 1) := by decide +kernel
theorem dX10_runs_24 : decode cX10_runs 24 = .ok (.getfield 7, 3) := by decide +kernel
theorem dX10_runs_27 : decode cX10_runs 27 = .ok (.iload_n 1, 1) := by decide +kernel
theorem dX10_runs_28 : decode cX10_runs 28 = .ok (.iaload, 1) := by decide +kernel
theorem dX10_runs_29 : decode cX10_runs 29 = .ok (.if_icmp .gt 28, 3) := by decide +kernel
theorem dX10_runs_32 : decode cX10_runs 32 = .ok (.iload_n 2, 1) := by decide +kernel
theorem dX10_runs_33 : decode cX10_runs 33 = .ok (.aload_n 0, 1) := by decide +kernel
theorem dX10_runs_34 : decode cX10_runs 34 = .ok (.iload_n 1, 1) := by decide +kernel
theorem dX10_runs_35 : decode cX10_runs 35 = .ok (.iload_n 3, 1) := by decide +kernel
theorem dX10_runs_36 : decode cX10_runs 36 = .ok (.iload 4, 2) := by decide +kernel
theorem dX10_runs_38 : decode cX10_runs 38 = .ok (.invokevirtual 61, 3) := by decide +kernel
theorem dX10_runs_41 : decode cX10_runs 41 = .ok (.ifCond .le 7, 3) := by decide +kernel
theorem dX10_runs_44 : decode cX10_runs 44 = .ok (.iconst 1, 1) := by decide +kernel
theorem dX10_runs_45 : decode cX10_runs 45 = .ok (.goto 4, 3) := by decide +kernel
theorem dX10_runs_48 : decode cX10_runs 48 = .ok (.iconst 0, 1) := by decide +kernel
theorem dX10_runs_49 : decode cX10_runs 49 = .ok (.iadd, 1) := by decide +kernel
theorem dX10_runs_50 : decode cX10_runs 50 = .ok (.istore_n 2, 1) := by decide +kernel
theorem dX10_runs_51 : decode cX10_runs 51 = .ok (.iinc 4 1, 3) := by decide +kernel
theorem dX10_runs_54 : decode cX10_runs 54 = .ok (.goto (-37), 3) := by decide +kernel
theorem dX10_runs_57 : decode cX10_runs 57 = .ok (.iinc 3 1, 3) := by decide +kernel
theorem dX10_runs_60 : decode cX10_runs 60 = .ok (.goto (-56), 3) := by decide +kernel
theorem dX10_runs_63 : decode cX10_runs 63 = .ok (.iload_n 2, 1) := by decide +kernel
theorem dX10_runs_64 : decode cX10_runs 64 = .ok (.ireturn, 1) := by decide +kernel
set_option maxRecDepth 20000 in
theorem ggX10_runsOver_X10_runEnd : GoodIn wsX10_runsOver wsX10_runEnd := goodIn_r _ [6, 1, 7, 8, 9, 5, 10, 11, 12, 13, 14, 15, 16, 17, 18, 19, 20, 21, 22, 23, 24, 25, 26, 27, 28] (by decide +kernel) (by decide +kernel)
set_option maxRecDepth 20000 in
theorem gX10_runsOver_X10_runEnd : GoodIn wsX10_runsOver (wsV RX10 61 RX10 yX10_runEnd wsX10_runEnd) := goodIn_app (goodIn_of _ (by decide +kernel)) ggX10_runsOver_X10_runEnd
theorem dX10_runsOver_0 : decode cX10_runsOver 0 = .ok (.iconst 0, 1) := by decide +kernel
theorem dX10_runsOver_1 : decode cX10_runsOver 1 = .ok (.istore_n 2, 1) := by decide +kernel
theorem dX10_runsOver_2 : decode cX10_runsOver 2 = .ok (.iconst 0, 1) := by decide +kernel
theorem dX10_runsOver_3 : decode cX10_runsOver 3 = .ok (.istore_n 3, 1) := by decide +kernel
theorem dX10_runsOver_4 : decode cX10_runsOver 4 = .ok (.iload_n 3, 1) := by decide +kernel
theorem dX10_runsOver_5 : decode cX10_runsOver 5 = .ok (.iload_n 1, 1) := by decide +kernel
theorem dX10_runsOver_6 : decode cX10_runsOver 6 = .ok (.if_icmp .gt 53, 3) := by decide +kernel
theorem dX10_runsOver_9 : decode cX10_runsOver 9 = .ok (.iconst 1, 1) := by decide +kernel
theorem dX10_runsOver_10 : decode cX10_runsOver 10 = .ok (.istore 4, 2) := by decide +kernel
theorem dX10_runsOver_12 : decode cX10_runsOver 12 = .ok (.iload_n 3, 1) := by decide +kernel
theorem dX10_runsOver_13 : decode cX10_runsOver 13 = .ok (.iconst 2, 1) := by decide +kernel
theorem dX10_runsOver_14 : decode cX10_runsOver 14 = .ok (.iload 4, 2) := by decide +kernel
theorem dX10_runsOver_16 : decode cX10_runsOver 16 = .ok (.imul, 1) := by decide +kernel
theorem dX10_runsOver_17 : decode cX10_runsOver 17 = .ok (.iadd, 1) := by decide +kernel
theorem dX10_runsOver_18 : decode cX10_runsOver 18 = .ok (.aload_n 0, 1) := by decide +kernel
theorem dX10_runsOver_19 : decode cX10_runsOver 19 = .ok (.getfield 7, 3) := by decide +kernel
theorem dX10_runsOver_22 : decode cX10_runsOver 22 = .ok (.iconst 0, 1) := by decide +kernel
theorem dX10_runsOver_23 : decode cX10_runsOver 23 = .ok (.iaload, 1) := by decide +kernel
theorem dX10_runsOver_24 : decode cX10_runsOver 24 = .ok (.if_icmp .gt 29, 3) := by decide +kernel
theorem dX10_runsOver_27 : decode cX10_runsOver 27 = .ok (.iload_n 2, 1) := by decide +kernel
theorem dX10_runsOver_28 : decode cX10_runsOver 28 = .ok (.aload_n 0, 1) := by decide +kernel
theorem dX10_runsOver_29 : decode cX10_runsOver 29 = .ok (.iconst 0, 1) := by decide +kernel
theorem dX10_runsOver_30 : decode cX10_runsOver 30 = .ok (.iload_n 3, 1) := by decide +kernel
theorem dX10_runsOver_31 : decode cX10_runsOver 31 = .ok (.iload 4, 2) := by decide +kernel
theorem dX10_runsOver_33 : decode cX10_runsOver 33 = .ok (.invokevirtual 61, 3) := by decide +kernel
theorem dX10_runsOver_36 : decode cX10_runsOver 36 = .ok (.iload_n 1, 1) := by decide +kernel
theorem dX10_runsOver_37 : decode cX10_runsOver 37 = .ok (.if_icmp .le 7, 3) := by decide +kernel
theorem dX10_runsOver_40 : decode cX10_runsOver 40 = .ok (.iconst 1, 1) := by decide +kernel
theorem dX10_runsOver_41 : decode cX10_runsOver 41 = .ok (.goto 4, 3) := by decide +kernel
theorem dX10_runsOver_44 : decode cX10_runsOver 44 = .ok (.iconst 0, 1) := by decide +kernel
theorem dX10_runsOver_45 : decode cX10_runsOver 45 = .ok (.iadd, 1) := by decide +kernel
theorem dX10_runsOver_46 : decode cX10_runsOver 46 = .ok (.istore_n 2, 1) := by decide +kernel
theorem dX10_runsOver_47 : decode cX10_runsOver 47 = .ok (.iinc 4 1, 3) := by decide +kernel
theorem dX10_runsOver_50 : decode cX10_runsOver 50 = .ok (.goto (-38), 3) := by decide +kernel
theorem dX10_runsOver_53 : decode cX10_runsOver 53 = .ok (.iinc 3 1, 3) := by decide +kernel
theorem dX10_runsOver_56 : decode cX10_runsOver 56 = .ok (.goto (-52), 3) := by decide +kernel
theorem dX10_runsOver_59 : decode cX10_runsOver 59 = .ok (.iload_n 2, 1) := by decide +kernel
theorem dX10_runsOver_60 : decode cX10_runsOver 60 = .ok (.ireturn, 1) := by decide +kernel
set_option maxRecDepth 20000 in
theorem ggX10_alikeFrom_X10_letAt : GoodIn wsX10_alikeFrom wsX10_letAt := goodIn_r _ [6, 1, 7, 8, 9, 10, 11, 12] (by decide +kernel) (by decide +kernel)
set_option maxRecDepth 20000 in
theorem gX10_alikeFrom_X10_letAt : GoodIn wsX10_alikeFrom (wsV RX10 32 RX10 yX10_letAt wsX10_letAt) := goodIn_app (goodIn_of _ (by decide +kernel)) ggX10_alikeFrom_X10_letAt
theorem dX10_alikeFrom_0 : decode cX10_alikeFrom 0 = .ok (.iconst 0, 1) := by decide +kernel
theorem dX10_alikeFrom_1 : decode cX10_alikeFrom 1 = .ok (.istore_n 3, 1) := by decide +kernel
theorem dX10_alikeFrom_2 : decode cX10_alikeFrom 2 = .ok (.iload_n 1, 1) := by decide +kernel
theorem dX10_alikeFrom_3 : decode cX10_alikeFrom 3 = .ok (.iload_n 3, 1) := by decide +kernel
theorem dX10_alikeFrom_4 : decode cX10_alikeFrom 4 = .ok (.iadd, 1) := by decide +kernel
theorem dX10_alikeFrom_5 : decode cX10_alikeFrom 5 = .ok (.aload_n 0, 1) := by decide +kernel
theorem dX10_alikeFrom_6 : decode cX10_alikeFrom 6 = .ok (.getfield 7, 3) := by decide +kernel
theorem dX10_alikeFrom_9 : decode cX10_alikeFrom 9 = .ok (.iconst 0, 1) := by decide +kernel
theorem dX10_alikeFrom_10 : decode cX10_alikeFrom 10 = .ok (.iaload, 1) := by decide +kernel
theorem dX10_alikeFrom_11 : decode cX10_alikeFrom 11 = .ok (.if_icmp .ge 40, 3) := by decide +kernel
theorem dX10_alikeFrom_14 : decode cX10_alikeFrom 14 = .ok (.iload_n 2, 1) := by decide +kernel
theorem dX10_alikeFrom_15 : decode cX10_alikeFrom 15 = .ok (.iload_n 3, 1) := by decide +kernel
theorem dX10_alikeFrom_16 : decode cX10_alikeFrom 16 = .ok (.iadd, 1) := by decide +kernel
theorem dX10_alikeFrom_17 : decode cX10_alikeFrom 17 = .ok (.aload_n 0, 1) := by decide +kernel
theorem dX10_alikeFrom_18 : decode cX10_alikeFrom 18 = .ok (.getfield 7, 3) := by decide +kernel
theorem dX10_alikeFrom_21 : decode cX10_alikeFrom 21 = .ok (.iconst 0, 1) := by decide +kernel
theorem dX10_alikeFrom_22 : decode cX10_alikeFrom 22 = .ok (.iaload, 1) := by decide +kernel
theorem dX10_alikeFrom_23 : decode cX10_alikeFrom 23 = .ok (.if_icmp .ge 28, 3) := by decide +kernel
theorem dX10_alikeFrom_26 : decode cX10_alikeFrom 26 = .ok (.aload_n 0, 1) := by decide +kernel
theorem dX10_alikeFrom_27 : decode cX10_alikeFrom 27 = .ok (.iconst 0, 1) := by decide +kernel
theorem dX10_alikeFrom_28 : decode cX10_alikeFrom 28 = .ok (.iload_n 1, 1) := by decide +kernel
theorem dX10_alikeFrom_29 : decode cX10_alikeFrom 29 = .ok (.iload_n 3, 1) := by decide +kernel
theorem dX10_alikeFrom_30 : decode cX10_alikeFrom 30 = .ok (.iadd, 1) := by decide +kernel
theorem dX10_alikeFrom_31 : decode cX10_alikeFrom 31 = .ok (.invokevirtual 32, 3) := by decide +kernel
theorem dX10_alikeFrom_34 : decode cX10_alikeFrom 34 = .ok (.aload_n 0, 1) := by decide +kernel
theorem dX10_alikeFrom_35 : decode cX10_alikeFrom 35 = .ok (.iconst 0, 1) := by decide +kernel
theorem dX10_alikeFrom_36 : decode cX10_alikeFrom 36 = .ok (.iload_n 2, 1) := by decide +kernel
theorem dX10_alikeFrom_37 : decode cX10_alikeFrom 37 = .ok (.iload_n 3, 1) := by decide +kernel
theorem dX10_alikeFrom_38 : decode cX10_alikeFrom 38 = .ok (.iadd, 1) := by decide +kernel
theorem dX10_alikeFrom_39 : decode cX10_alikeFrom 39 = .ok (.invokevirtual 32, 3) := by decide +kernel
theorem dX10_alikeFrom_42 : decode cX10_alikeFrom 42 = .ok (.if_icmp .ne 9, 3) := by decide +kernel
theorem dX10_alikeFrom_45 : decode cX10_alikeFrom 45 = .ok (.iinc 3 1, 3) := by decide +kernel
theorem dX10_alikeFrom_48 : decode cX10_alikeFrom 48 = .ok (.goto (-46), 3) := by decide +kernel
theorem dX10_alikeFrom_51 : decode cX10_alikeFrom 51 = .ok (.iload_n 3, 1) := by decide +kernel
theorem dX10_alikeFrom_52 : decode cX10_alikeFrom 52 = .ok (.ireturn, 1) := by decide +kernel
set_option maxRecDepth 20000 in
theorem ggX10_isAhead_X10_alikeFrom : GoodIn wsX10_isAhead wsX10_alikeFrom := goodIn_r _ [6, 1, 7, 8, 9, 5, 10, 11, 12, 13, 14, 15, 16] (by decide +kernel) (by decide +kernel)
set_option maxRecDepth 20000 in
theorem gX10_isAhead_X10_alikeFrom : GoodIn wsX10_isAhead (wsV RX10 64 RX10 yX10_alikeFrom wsX10_alikeFrom) := goodIn_app (goodIn_of _ (by decide +kernel)) ggX10_isAhead_X10_alikeFrom
set_option maxRecDepth 20000 in
theorem ggX10_isAhead_X10_letAt : GoodIn wsX10_isAhead wsX10_letAt := goodIn_r _ [10, 1, 11, 12, 13, 14, 15, 16] (by decide +kernel) (by decide +kernel)
set_option maxRecDepth 20000 in
theorem gX10_isAhead_X10_letAt : GoodIn wsX10_isAhead (wsV RX10 32 RX10 yX10_letAt wsX10_letAt) := goodIn_app (goodIn_of _ (by decide +kernel)) ggX10_isAhead_X10_letAt
theorem dX10_isAhead_0 : decode cX10_isAhead 0 = .ok (.aload_n 0, 1) := by decide +kernel
theorem dX10_isAhead_1 : decode cX10_isAhead 1 = .ok (.iload_n 1, 1) := by decide +kernel
theorem dX10_isAhead_2 : decode cX10_isAhead 2 = .ok (.iload_n 2, 1) := by decide +kernel
theorem dX10_isAhead_3 : decode cX10_isAhead 3 = .ok (.invokevirtual 64, 3) := by decide +kernel
theorem dX10_isAhead_6 : decode cX10_isAhead 6 = .ok (.istore_n 3, 1) := by decide +kernel
theorem dX10_isAhead_7 : decode cX10_isAhead 7 = .ok (.iload_n 1, 1) := by decide +kernel
theorem dX10_isAhead_8 : decode cX10_isAhead 8 = .ok (.iload_n 3, 1) := by decide +kernel
theorem dX10_isAhead_9 : decode cX10_isAhead 9 = .ok (.iadd, 1) := by decide +kernel
theorem dX10_isAhead_10 : decode cX10_isAhead 10 = .ok (.aload_n 0, 1) := by decide +kernel
theorem dX10_isAhead_11 : decode cX10_isAhead 11 = .ok (.getfield 7, 3) := by decide +kernel
theorem dX10_isAhead_14 : decode cX10_isAhead 14 = .ok (.iconst 0, 1) := by decide +kernel
theorem dX10_isAhead_15 : decode cX10_isAhead 15 = .ok (.iaload, 1) := by decide +kernel
theorem dX10_isAhead_16 : decode cX10_isAhead 16 = .ok (.if_icmp .ne 16, 3) := by decide +kernel
theorem dX10_isAhead_19 : decode cX10_isAhead 19 = .ok (.iload_n 1, 1) := by decide +kernel
theorem dX10_isAhead_20 : decode cX10_isAhead 20 = .ok (.iload_n 2, 1) := by decide +kernel
theorem dX10_isAhead_21 : decode cX10_isAhead 21 = .ok (.if_icmp .le 7, 3) := by decide +kernel
theorem dX10_isAhead_24 : decode cX10_isAhead 24 = .ok (.iconst 1, 1) := by decide +kernel
theorem dX10_isAhead_25 : decode cX10_isAhead 25 = .ok (.goto 43, 3) := by decide +kernel
theorem dX10_isAhead_28 : decode cX10_isAhead 28 = .ok (.iconst 0, 1) := by decide +kernel
theorem dX10_isAhead_29 : decode cX10_isAhead 29 = .ok (.goto 39, 3) := by decide +kernel
theorem dX10_isAhead_32 : decode cX10_isAhead 32 = .ok (.iload_n 2, 1) := by decide +kernel
theorem dX10_isAhead_33 : decode cX10_isAhead 33 = .ok (.iload_n 3, 1) := by decide +kernel
theorem dX10_isAhead_34 : decode cX10_isAhead 34 = .ok (.iadd, 1) := by decide +kernel
theorem dX10_isAhead_35 : decode cX10_isAhead 35 = .ok (.aload_n 0, 1) := by decide +kernel
theorem dX10_isAhead_36 : decode cX10_isAhead 36 = .ok (.getfield 7, 3) := by decide +kernel
theorem dX10_isAhead_39 : decode cX10_isAhead 39 = .ok (.iconst 0, 1) := by decide +kernel
theorem dX10_isAhead_40 : decode cX10_isAhead 40 = .ok (.iaload, 1) := by decide +kernel
theorem dX10_isAhead_41 : decode cX10_isAhead 41 = .ok (.if_icmp .ge 26, 3) := by decide +kernel
theorem dX10_isAhead_44 : decode cX10_isAhead 44 = .ok (.aload_n 0, 1) := by decide +kernel
theorem dX10_isAhead_45 : decode cX10_isAhead 45 = .ok (.iconst 0, 1) := by decide +kernel
theorem dX10_isAhead_46 : decode cX10_isAhead 46 = .ok (.iload_n 1, 1) := by decide +kernel
theorem dX10_isAhead_47 : decode cX10_isAhead 47 = .ok (.iload_n 3, 1) := by decide +kernel
theorem dX10_isAhead_48 : decode cX10_isAhead 48 = .ok (.iadd, 1) := by decide +kernel
theorem dX10_isAhead_49 : decode cX10_isAhead 49 = .ok (.invokevirtual 32, 3) := by decide +kernel
theorem dX10_isAhead_52 : decode cX10_isAhead 52 = .ok (.aload_n 0, 1) := by decide +kernel
theorem dX10_isAhead_53 : decode cX10_isAhead 53 = .ok (.iconst 0, 1) := by decide +kernel
theorem dX10_isAhead_54 : decode cX10_isAhead 54 = .ok (.iload_n 2, 1) := by decide +kernel
theorem dX10_isAhead_55 : decode cX10_isAhead 55 = .ok (.iload_n 3, 1) := by decide +kernel
theorem dX10_isAhead_56 : decode cX10_isAhead 56 = .ok (.iadd, 1) := by decide +kernel
theorem dX10_isAhead_57 : decode cX10_isAhead 57 = .ok (.invokevirtual 32, 3) := by decide +kernel
theorem dX10_isAhead_60 : decode cX10_isAhead 60 = .ok (.if_icmp .ge 7, 3) := by decide +kernel
theorem dX10_isAhead_63 : decode cX10_isAhead 63 = .ok (.iconst 1, 1) := by decide +kernel
theorem dX10_isAhead_64 : decode cX10_isAhead 64 = .ok (.goto 4, 3) := by decide +kernel
theorem dX10_isAhead_67 : decode cX10_isAhead 67 = .ok (.iconst 0, 1) := by decide +kernel
theorem dX10_isAhead_68 : decode cX10_isAhead 68 = .ok (.ireturn, 1) := by decide +kernel
set_option maxRecDepth 20000 in
theorem ggX10_sorts_X10_isAhead : GoodIn wsX10_sorts wsX10_isAhead := goodIn_r _ [7, 1, 8, 9, 10, 6, 11, 12, 13, 14, 15, 16, 17, 18, 19, 20, 21] (by decide +kernel) (by decide +kernel)
set_option maxRecDepth 20000 in
theorem gX10_sorts_X10_isAhead : GoodIn wsX10_sorts (wsV RX10 67 RX10 yX10_isAhead wsX10_isAhead) := goodIn_app (goodIn_of _ (by decide +kernel)) ggX10_sorts_X10_isAhead
theorem dX10_sorts_0 : decode cX10_sorts 0 = .ok (.iconst 0, 1) := by decide +kernel
theorem dX10_sorts_1 : decode cX10_sorts 1 = .ok (.istore_n 1, 1) := by decide +kernel
theorem dX10_sorts_2 : decode cX10_sorts 2 = .ok (.iload_n 1, 1) := by decide +kernel
theorem dX10_sorts_3 : decode cX10_sorts 3 = .ok (.aload_n 0, 1) := by decide +kernel
theorem dX10_sorts_4 : decode cX10_sorts 4 = .ok (.getfield 7, 3) := by decide +kernel
theorem dX10_sorts_7 : decode cX10_sorts 7 = .ok (.iconst 0, 1) := by decide +kernel
theorem dX10_sorts_8 : decode cX10_sorts 8 = .ok (.iaload, 1) := by decide +kernel
theorem dX10_sorts_9 : decode cX10_sorts 9 = .ok (.if_icmp .ge 58, 3) := by decide +kernel
theorem dX10_sorts_12 : decode cX10_sorts 12 = .ok (.iload_n 1, 1) := by decide +kernel
theorem dX10_sorts_13 : decode cX10_sorts 13 = .ok (.istore_n 2, 1) := by decide +kernel
theorem dX10_sorts_14 : decode cX10_sorts 14 = .ok (.iload_n 2, 1) := by decide +kernel
theorem dX10_sorts_15 : decode cX10_sorts 15 = .ok (.ifCond .le 39, 3) := by decide +kernel
theorem dX10_sorts_18 : decode cX10_sorts 18 = .ok (.aload_n 0, 1) := by decide +kernel
theorem dX10_sorts_19 : decode cX10_sorts 19 = .ok (.iload_n 1, 1) := by decide +kernel
theorem dX10_sorts_20 : decode cX10_sorts 20 = .ok (.aload_n 0, 1) := by decide +kernel
theorem dX10_sorts_21 : decode cX10_sorts 21 = .ok (.getfield 17, 3) := by decide +kernel
theorem dX10_sorts_24 : decode cX10_sorts 24 = .ok (.iload_n 2, 1) := by decide +kernel
theorem dX10_sorts_25 : decode cX10_sorts 25 = .ok (.iconst 1, 1) := by decide +kernel
theorem dX10_sorts_26 : decode cX10_sorts 26 = .ok (.isub, 1) := by decide +kernel
theorem dX10_sorts_27 : decode cX10_sorts 27 = .ok (.iaload, 1) := by decide +kernel
theorem dX10_sorts_28 : decode cX10_sorts 28 = .ok (.invokevirtual 67, 3) := by decide +kernel
theorem dX10_sorts_31 : decode cX10_sorts 31 = .ok (.ifCond .eq 23, 3) := by decide +kernel
theorem dX10_sorts_34 : decode cX10_sorts 34 = .ok (.aload_n 0, 1) := by decide +kernel
theorem dX10_sorts_35 : decode cX10_sorts 35 = .ok (.getfield 17, 3) := by decide +kernel
theorem dX10_sorts_38 : decode cX10_sorts 38 = .ok (.iload_n 2, 1) := by decide +kernel
theorem dX10_sorts_39 : decode cX10_sorts 39 = .ok (.aload_n 0, 1) := by decide +kernel
theorem dX10_sorts_40 : decode cX10_sorts 40 = .ok (.getfield 17, 3) := by decide +kernel
theorem dX10_sorts_43 : decode cX10_sorts 43 = .ok (.iload_n 2, 1) := by decide +kernel
theorem dX10_sorts_44 : decode cX10_sorts 44 = .ok (.iconst 1, 1) := by decide +kernel
theorem dX10_sorts_45 : decode cX10_sorts 45 = .ok (.isub, 1) := by decide +kernel
theorem dX10_sorts_46 : decode cX10_sorts 46 = .ok (.iaload, 1) := by decide +kernel
theorem dX10_sorts_47 : decode cX10_sorts 47 = .ok (.iastore, 1) := by decide +kernel
theorem dX10_sorts_48 : decode cX10_sorts 48 = .ok (.iinc 2 (-1), 3) := by decide +kernel
theorem dX10_sorts_51 : decode cX10_sorts 51 = .ok (.goto (-37), 3) := by decide +kernel
theorem dX10_sorts_54 : decode cX10_sorts 54 = .ok (.aload_n 0, 1) := by decide +kernel
theorem dX10_sorts_55 : decode cX10_sorts 55 = .ok (.getfield 17, 3) := by decide +kernel
theorem dX10_sorts_58 : decode cX10_sorts 58 = .ok (.iload_n 2, 1) := by decide +kernel
theorem dX10_sorts_59 : decode cX10_sorts 59 = .ok (.iload_n 1, 1) := by decide +kernel
theorem dX10_sorts_60 : decode cX10_sorts 60 = .ok (.iastore, 1) := by decide +kernel
theorem dX10_sorts_61 : decode cX10_sorts 61 = .ok (.iinc 1 1, 3) := by decide +kernel
theorem dX10_sorts_64 : decode cX10_sorts 64 = .ok (.goto (-62), 3) := by decide +kernel
theorem dX10_sorts_67 : decode cX10_sorts 67 = .ok (.return_, 1) := by decide +kernel
set_option maxRecDepth 20000 in
theorem ggX10_rankOf_X10_sorts : GoodIn wsX10_rankOf wsX10_sorts := goodIn_r _ [7, 1, 2, 8, 9, 10, 6, 11, 12, 13, 14, 15, 16, 17, 18, 19, 20, 21, 22, 23, 24, 25] (by decide +kernel) (by decide +kernel)
set_option maxRecDepth 20000 in
theorem gX10_rankOf_X10_sorts : GoodIn wsX10_rankOf (wsV RX10 71 RX10 yX10_sorts wsX10_sorts) := goodIn_app (goodIn_of _ (by decide +kernel)) ggX10_rankOf_X10_sorts
theorem dX10_rankOf_0 : decode cX10_rankOf 0 = .ok (.aload_n 0, 1) := by decide +kernel
theorem dX10_rankOf_1 : decode cX10_rankOf 1 = .ok (.invokevirtual 71, 3) := by decide +kernel
theorem dX10_rankOf_4 : decode cX10_rankOf 4 = .ok (.iconst 0, 1) := by decide +kernel
theorem dX10_rankOf_5 : decode cX10_rankOf 5 = .ok (.istore_n 2, 1) := by decide +kernel
theorem dX10_rankOf_6 : decode cX10_rankOf 6 = .ok (.iconst 0, 1) := by decide +kernel
theorem dX10_rankOf_7 : decode cX10_rankOf 7 = .ok (.istore_n 3, 1) := by decide +kernel
theorem dX10_rankOf_8 : decode cX10_rankOf 8 = .ok (.iload_n 3, 1) := by decide +kernel
theorem dX10_rankOf_9 : decode cX10_rankOf 9 = .ok (.aload_n 0, 1) := by decide +kernel
theorem dX10_rankOf_10 : decode cX10_rankOf 10 = .ok (.getfield 7, 3) := by decide +kernel
theorem dX10_rankOf_13 : decode cX10_rankOf 13 = .ok (.iconst 0, 1) := by decide +kernel
theorem dX10_rankOf_14 : decode cX10_rankOf 14 = .ok (.iaload, 1) := by decide +kernel
theorem dX10_rankOf_15 : decode cX10_rankOf 15 = .ok (.if_icmp .ge 25, 3) := by decide +kernel
theorem dX10_rankOf_18 : decode cX10_rankOf 18 = .ok (.aload_n 0, 1) := by decide +kernel
theorem dX10_rankOf_19 : decode cX10_rankOf 19 = .ok (.getfield 17, 3) := by decide +kernel
theorem dX10_rankOf_22 : decode cX10_rankOf 22 = .ok (.iload_n 3, 1) := by decide +kernel
theorem dX10_rankOf_23 : decode cX10_rankOf 23 = .ok (.iaload, 1) := by decide +kernel
theorem dX10_rankOf_24 : decode cX10_rankOf 24 = .ok (.iload_n 1, 1) := by decide +kernel
theorem dX10_rankOf_25 : decode cX10_rankOf 25 = .ok (.if_icmp .ne 7, 3) := by decide +kernel
theorem dX10_rankOf_28 : decode cX10_rankOf 28 = .ok (.iload_n 3, 1) := by decide +kernel
theorem dX10_rankOf_29 : decode cX10_rankOf 29 = .ok (.goto 4, 3) := by decide +kernel
theorem dX10_rankOf_32 : decode cX10_rankOf 32 = .ok (.iload_n 2, 1) := by decide +kernel
theorem dX10_rankOf_33 : decode cX10_rankOf 33 = .ok (.istore_n 2, 1) := by decide +kernel
theorem dX10_rankOf_34 : decode cX10_rankOf 34 = .ok (.iinc 3 1, 3) := by decide +kernel
theorem dX10_rankOf_37 : decode cX10_rankOf 37 = .ok (.goto (-29), 3) := by decide +kernel
theorem dX10_rankOf_40 : decode cX10_rankOf 40 = .ok (.iload_n 2, 1) := by decide +kernel
theorem dX10_rankOf_41 : decode cX10_rankOf 41 = .ok (.ireturn, 1) := by decide +kernel
set_option maxRecDepth 20000 in
theorem ggX10_add_X10_in : GoodIn wsX10_add wsX10_in := goodIn_r _ [5] (by decide +kernel) (by decide +kernel)
set_option maxRecDepth 20000 in
theorem gX10_add_X10_in : GoodIn wsX10_add (va_wsS RX10 28 yX10_in wsX10_in) := goodIn_app (goodIn_of _ (by decide +kernel)) ggX10_add_X10_in
set_option maxRecDepth 20000 in
theorem ggX10_add_X10_records : GoodIn wsX10_add wsX10_records := goodIn_r _ [9, 10, 11, 12, 13, 4, 14, 1, 27, 28, 29, 30, 31, 32] (by decide +kernel) (by decide +kernel)
set_option maxRecDepth 20000 in
theorem gX10_add_X10_records : GoodIn wsX10_add (wsV RX10 74 RX10 yX10_records wsX10_records) := goodIn_app (goodIn_of _ (by decide +kernel)) ggX10_add_X10_records
set_option maxRecDepth 20000 in
theorem ggX10_add_X10_edge : GoodIn wsX10_add wsX10_edge := goodIn_r _ [18, 19, 20, 21, 4, 22, 23, 24, 25, 26, 1, 27, 28, 29, 30, 31, 32] (by decide +kernel) (by decide +kernel)
set_option maxRecDepth 20000 in
theorem gX10_add_X10_edge : GoodIn wsX10_add (wsV RX10 40 RX10 yX10_edge wsX10_edge) := goodIn_app (goodIn_of _ (by decide +kernel)) ggX10_add_X10_edge
theorem dX10_add_0 : decode cX10_add 0 = .ok (.iload_n 1, 1) := by decide +kernel
theorem dX10_add_1 : decode cX10_add 1 = .ok (.iconst 0, 1) := by decide +kernel
theorem dX10_add_2 : decode cX10_add 2 = .ok (.bipush 25, 2) := by decide +kernel
theorem dX10_add_4 : decode cX10_add 4 = .ok (.invokestatic 28, 3) := by decide +kernel
theorem dX10_add_7 : decode cX10_add 7 = .ok (.ifCond .ne 6, 3) := by decide +kernel
theorem dX10_add_10 : decode cX10_add 10 = .ok (.bipush (-2), 2) := by decide +kernel
theorem dX10_add_12 : decode cX10_add 12 = .ok (.ireturn, 1) := by decide +kernel
theorem dX10_add_13 : decode cX10_add 13 = .ok (.aload_n 0, 1) := by decide +kernel
theorem dX10_add_14 : decode cX10_add 14 = .ok (.getfield 7, 3) := by decide +kernel
theorem dX10_add_17 : decode cX10_add 17 = .ok (.iconst 0, 1) := by decide +kernel
theorem dX10_add_18 : decode cX10_add 18 = .ok (.iaload, 1) := by decide +kernel
theorem dX10_add_19 : decode cX10_add 19 = .ok (.bipush 40, 2) := by decide +kernel
theorem dX10_add_21 : decode cX10_add 21 = .ok (.if_icmp .ne 6, 3) := by decide +kernel
theorem dX10_add_24 : decode cX10_add 24 = .ok (.bipush (-3), 2) := by decide +kernel
theorem dX10_add_26 : decode cX10_add 26 = .ok (.ireturn, 1) := by decide +kernel
theorem dX10_add_27 : decode cX10_add 27 = .ok (.aload_n 0, 1) := by decide +kernel
theorem dX10_add_28 : decode cX10_add 28 = .ok (.invokevirtual 74, 3) := by decide +kernel
theorem dX10_add_31 : decode cX10_add 31 = .ok (.aload_n 0, 1) := by decide +kernel
theorem dX10_add_32 : decode cX10_add 32 = .ok (.getfield 7, 3) := by decide +kernel
theorem dX10_add_35 : decode cX10_add 35 = .ok (.iconst 0, 1) := by decide +kernel
theorem dX10_add_36 : decode cX10_add 36 = .ok (.dup2, 1) := by decide +kernel
theorem dX10_add_37 : decode cX10_add 37 = .ok (.iaload, 1) := by decide +kernel
theorem dX10_add_38 : decode cX10_add 38 = .ok (.iconst 1, 1) := by decide +kernel
theorem dX10_add_39 : decode cX10_add 39 = .ok (.iadd, 1) := by decide +kernel
theorem dX10_add_40 : decode cX10_add 40 = .ok (.iastore, 1) := by decide +kernel
theorem dX10_add_41 : decode cX10_add 41 = .ok (.aload_n 0, 1) := by decide +kernel
theorem dX10_add_42 : decode cX10_add 42 = .ok (.getfield 7, 3) := by decide +kernel
theorem dX10_add_45 : decode cX10_add 45 = .ok (.aload_n 0, 1) := by decide +kernel
theorem dX10_add_46 : decode cX10_add 46 = .ok (.getfield 7, 3) := by decide +kernel
theorem dX10_add_49 : decode cX10_add 49 = .ok (.iconst 0, 1) := by decide +kernel
theorem dX10_add_50 : decode cX10_add 50 = .ok (.iaload, 1) := by decide +kernel
theorem dX10_add_51 : decode cX10_add 51 = .ok (.iload_n 1, 1) := by decide +kernel
theorem dX10_add_52 : decode cX10_add 52 = .ok (.iastore, 1) := by decide +kernel
theorem dX10_add_53 : decode cX10_add 53 = .ok (.aload_n 0, 1) := by decide +kernel
theorem dX10_add_54 : decode cX10_add 54 = .ok (.iconst 0, 1) := by decide +kernel
theorem dX10_add_55 : decode cX10_add 55 = .ok (.iconst 0, 1) := by decide +kernel
theorem dX10_add_56 : decode cX10_add 56 = .ok (.aload_n 0, 1) := by decide +kernel
theorem dX10_add_57 : decode cX10_add 57 = .ok (.getfield 7, 3) := by decide +kernel
theorem dX10_add_60 : decode cX10_add 60 = .ok (.iconst 0, 1) := by decide +kernel
theorem dX10_add_61 : decode cX10_add 61 = .ok (.iaload, 1) := by decide +kernel
theorem dX10_add_62 : decode cX10_add 62 = .ok (.aload_n 0, 1) := by decide +kernel
theorem dX10_add_63 : decode cX10_add 63 = .ok (.getfield 7, 3) := by decide +kernel
theorem dX10_add_66 : decode cX10_add 66 = .ok (.iconst 0, 1) := by decide +kernel
theorem dX10_add_67 : decode cX10_add 67 = .ok (.iaload, 1) := by decide +kernel
theorem dX10_add_68 : decode cX10_add 68 = .ok (.invokevirtual 40, 3) := by decide +kernel
theorem dX10_add_71 : decode cX10_add 71 = .ok (.ireturn, 1) := by decide +kernel
set_option maxRecDepth 20000 in
theorem ggX10_drop_X10_in : GoodIn wsX10_drop wsX10_in := goodIn_r _ [5] (by decide +kernel) (by decide +kernel)
set_option maxRecDepth 20000 in
theorem gX10_drop_X10_in : GoodIn wsX10_drop (va_wsS RX10 28 yX10_in wsX10_in) := goodIn_app (goodIn_of _ (by decide +kernel)) ggX10_drop_X10_in
set_option maxRecDepth 20000 in
theorem ggX10_drop_X10_records : GoodIn wsX10_drop wsX10_records := goodIn_r _ [9, 10, 11, 12, 13, 4, 14, 1, 15, 16, 17, 18, 19, 20] (by decide +kernel) (by decide +kernel)
set_option maxRecDepth 20000 in
theorem gX10_drop_X10_records : GoodIn wsX10_drop (wsV RX10 74 RX10 yX10_records wsX10_records) := goodIn_app (goodIn_of _ (by decide +kernel)) ggX10_drop_X10_records
theorem dX10_drop_0 : decode cX10_drop 0 = .ok (.iload_n 1, 1) := by decide +kernel
theorem dX10_drop_1 : decode cX10_drop 1 = .ok (.iconst 1, 1) := by decide +kernel
theorem dX10_drop_2 : decode cX10_drop 2 = .ok (.bipush 40, 2) := by decide +kernel
theorem dX10_drop_4 : decode cX10_drop 4 = .ok (.invokestatic 28, 3) := by decide +kernel
theorem dX10_drop_7 : decode cX10_drop 7 = .ok (.ifCond .ne 6, 3) := by decide +kernel
theorem dX10_drop_10 : decode cX10_drop 10 = .ok (.bipush (-2), 2) := by decide +kernel
theorem dX10_drop_12 : decode cX10_drop 12 = .ok (.ireturn, 1) := by decide +kernel
theorem dX10_drop_13 : decode cX10_drop 13 = .ok (.aload_n 0, 1) := by decide +kernel
theorem dX10_drop_14 : decode cX10_drop 14 = .ok (.getfield 7, 3) := by decide +kernel
theorem dX10_drop_17 : decode cX10_drop 17 = .ok (.iconst 0, 1) := by decide +kernel
theorem dX10_drop_18 : decode cX10_drop 18 = .ok (.iaload, 1) := by decide +kernel
theorem dX10_drop_19 : decode cX10_drop 19 = .ok (.iload_n 1, 1) := by decide +kernel
theorem dX10_drop_20 : decode cX10_drop 20 = .ok (.if_icmp .ge 5, 3) := by decide +kernel
theorem dX10_drop_23 : decode cX10_drop 23 = .ok (.iconst (-1), 1) := by decide +kernel
theorem dX10_drop_24 : decode cX10_drop 24 = .ok (.ireturn, 1) := by decide +kernel
theorem dX10_drop_25 : decode cX10_drop 25 = .ok (.aload_n 0, 1) := by decide +kernel
theorem dX10_drop_26 : decode cX10_drop 26 = .ok (.invokevirtual 74, 3) := by decide +kernel
theorem dX10_drop_29 : decode cX10_drop 29 = .ok (.aload_n 0, 1) := by decide +kernel
theorem dX10_drop_30 : decode cX10_drop 30 = .ok (.getfield 7, 3) := by decide +kernel
theorem dX10_drop_33 : decode cX10_drop 33 = .ok (.iconst 0, 1) := by decide +kernel
theorem dX10_drop_34 : decode cX10_drop 34 = .ok (.dup2, 1) := by decide +kernel
theorem dX10_drop_35 : decode cX10_drop 35 = .ok (.iaload, 1) := by decide +kernel
theorem dX10_drop_36 : decode cX10_drop 36 = .ok (.iload_n 1, 1) := by decide +kernel
theorem dX10_drop_37 : decode cX10_drop 37 = .ok (.isub, 1) := by decide +kernel
theorem dX10_drop_38 : decode cX10_drop 38 = .ok (.iastore, 1) := by decide +kernel
theorem dX10_drop_39 : decode cX10_drop 39 = .ok (.aload_n 0, 1) := by decide +kernel
theorem dX10_drop_40 : decode cX10_drop 40 = .ok (.getfield 7, 3) := by decide +kernel
theorem dX10_drop_43 : decode cX10_drop 43 = .ok (.iconst 0, 1) := by decide +kernel
theorem dX10_drop_44 : decode cX10_drop 44 = .ok (.iaload, 1) := by decide +kernel
theorem dX10_drop_45 : decode cX10_drop 45 = .ok (.ireturn, 1) := by decide +kernel
set_option maxRecDepth 20000 in
theorem ggX10_change_X10_isPlace : GoodIn wsX10_change wsX10_isPlace := goodIn_r _ [6, 1, 7, 8, 5, 9, 23, 24, 25, 26, 27, 28] (by decide +kernel) (by decide +kernel)
set_option maxRecDepth 20000 in
theorem gX10_change_X10_isPlace : GoodIn wsX10_change (wsV RX10 77 RX10 yX10_isPlace wsX10_isPlace) := goodIn_app (goodIn_of _ (by decide +kernel)) ggX10_change_X10_isPlace
set_option maxRecDepth 20000 in
theorem ggX10_change_X10_in : GoodIn wsX10_change wsX10_in := goodIn_r _ [9] (by decide +kernel) (by decide +kernel)
set_option maxRecDepth 20000 in
theorem gX10_change_X10_in : GoodIn wsX10_change (va_wsS RX10 28 yX10_in wsX10_in) := goodIn_app (goodIn_of _ (by decide +kernel)) ggX10_change_X10_in
set_option maxRecDepth 20000 in
theorem ggX10_change_X10_letAt : GoodIn wsX10_change wsX10_letAt := goodIn_r _ [13, 1, 23, 24, 25, 26, 27, 28] (by decide +kernel) (by decide +kernel)
set_option maxRecDepth 20000 in
theorem gX10_change_X10_letAt : GoodIn wsX10_change (wsV RX10 32 RX10 yX10_letAt wsX10_letAt) := goodIn_app (goodIn_of _ (by decide +kernel)) ggX10_change_X10_letAt
set_option maxRecDepth 20000 in
theorem ggX10_change_X10_records : GoodIn wsX10_change wsX10_records := goodIn_r _ [17, 18, 19, 20, 21, 5, 22, 1, 23, 24, 25, 26, 27, 28] (by decide +kernel) (by decide +kernel)
set_option maxRecDepth 20000 in
theorem gX10_change_X10_records : GoodIn wsX10_change (wsV RX10 74 RX10 yX10_records wsX10_records) := goodIn_app (goodIn_of _ (by decide +kernel)) ggX10_change_X10_records
theorem dX10_change_0 : decode cX10_change 0 = .ok (.aload_n 0, 1) := by decide +kernel
theorem dX10_change_1 : decode cX10_change 1 = .ok (.iload_n 1, 1) := by decide +kernel
theorem dX10_change_2 : decode cX10_change 2 = .ok (.invokevirtual 77, 3) := by decide +kernel
theorem dX10_change_5 : decode cX10_change 5 = .ok (.ifCond .ne 5, 3) := by decide +kernel
theorem dX10_change_8 : decode cX10_change 8 = .ok (.iconst (-1), 1) := by decide +kernel
theorem dX10_change_9 : decode cX10_change 9 = .ok (.ireturn, 1) := by decide +kernel
theorem dX10_change_10 : decode cX10_change 10 = .ok (.iload_n 2, 1) := by decide +kernel
theorem dX10_change_11 : decode cX10_change 11 = .ok (.iconst 0, 1) := by decide +kernel
theorem dX10_change_12 : decode cX10_change 12 = .ok (.bipush 25, 2) := by decide +kernel
theorem dX10_change_14 : decode cX10_change 14 = .ok (.invokestatic 28, 3) := by decide +kernel
theorem dX10_change_17 : decode cX10_change 17 = .ok (.ifCond .ne 6, 3) := by decide +kernel
theorem dX10_change_20 : decode cX10_change 20 = .ok (.bipush (-2), 2) := by decide +kernel
theorem dX10_change_22 : decode cX10_change 22 = .ok (.ireturn, 1) := by decide +kernel
theorem dX10_change_23 : decode cX10_change 23 = .ok (.aload_n 0, 1) := by decide +kernel
theorem dX10_change_24 : decode cX10_change 24 = .ok (.iconst 0, 1) := by decide +kernel
theorem dX10_change_25 : decode cX10_change 25 = .ok (.iload_n 1, 1) := by decide +kernel
theorem dX10_change_26 : decode cX10_change 26 = .ok (.invokevirtual 32, 3) := by decide +kernel
theorem dX10_change_29 : decode cX10_change 29 = .ok (.istore_n 3, 1) := by decide +kernel
theorem dX10_change_30 : decode cX10_change 30 = .ok (.iload_n 3, 1) := by decide +kernel
theorem dX10_change_31 : decode cX10_change 31 = .ok (.iload_n 2, 1) := by decide +kernel
theorem dX10_change_32 : decode cX10_change 32 = .ok (.if_icmp .ne 6, 3) := by decide +kernel
theorem dX10_change_35 : decode cX10_change 35 = .ok (.bipush (-4), 2) := by decide +kernel
theorem dX10_change_37 : decode cX10_change 37 = .ok (.ireturn, 1) := by decide +kernel
theorem dX10_change_38 : decode cX10_change 38 = .ok (.aload_n 0, 1) := by decide +kernel
theorem dX10_change_39 : decode cX10_change 39 = .ok (.invokevirtual 74, 3) := by decide +kernel
theorem dX10_change_42 : decode cX10_change 42 = .ok (.aload_n 0, 1) := by decide +kernel
theorem dX10_change_43 : decode cX10_change 43 = .ok (.getfield 7, 3) := by decide +kernel
theorem dX10_change_46 : decode cX10_change 46 = .ok (.iconst 1, 1) := by decide +kernel
theorem dX10_change_47 : decode cX10_change 47 = .ok (.iload_n 1, 1) := by decide +kernel
theorem dX10_change_48 : decode cX10_change 48 = .ok (.iadd, 1) := by decide +kernel
theorem dX10_change_49 : decode cX10_change 49 = .ok (.iload_n 2, 1) := by decide +kernel
theorem dX10_change_50 : decode cX10_change 50 = .ok (.iastore, 1) := by decide +kernel
theorem dX10_change_51 : decode cX10_change 51 = .ok (.iload_n 3, 1) := by decide +kernel
theorem dX10_change_52 : decode cX10_change 52 = .ok (.ireturn, 1) := by decide +kernel
set_option maxRecDepth 20000 in
theorem ggX10_isOther_X10_records : GoodIn wsX10_isOther wsX10_records := goodIn_r _ [6, 7, 8, 9, 10, 5, 11, 1, 12, 13, 14, 15, 16, 17] (by decide +kernel) (by decide +kernel)
set_option maxRecDepth 20000 in
theorem gX10_isOther_X10_records : GoodIn wsX10_isOther (wsV RX10 74 RX10 yX10_records wsX10_records) := goodIn_app (goodIn_of _ (by decide +kernel)) ggX10_isOther_X10_records
set_option maxRecDepth 20000 in
theorem ggX10_isOther_X10_copies : GoodIn wsX10_isOther wsX10_copies := goodIn_r _ [11, 1, 12, 13, 14, 15, 16, 17] (by decide +kernel) (by decide +kernel)
set_option maxRecDepth 20000 in
theorem gX10_isOther_X10_copies : GoodIn wsX10_isOther (wsV RX10 24 RX10 yX10_copies wsX10_copies) := goodIn_app (goodIn_of _ (by decide +kernel)) ggX10_isOther_X10_copies
theorem dX10_isOther_0 : decode cX10_isOther 0 = .ok (.iconst 0, 1) := by decide +kernel
theorem dX10_isOther_1 : decode cX10_isOther 1 = .ok (.istore_n 1, 1) := by decide +kernel
theorem dX10_isOther_2 : decode cX10_isOther 2 = .ok (.iconst 0, 1) := by decide +kernel
theorem dX10_isOther_3 : decode cX10_isOther 3 = .ok (.istore_n 2, 1) := by decide +kernel
theorem dX10_isOther_4 : decode cX10_isOther 4 = .ok (.iload_n 2, 1) := by decide +kernel
theorem dX10_isOther_5 : decode cX10_isOther 5 = .ok (.aload_n 0, 1) := by decide +kernel
theorem dX10_isOther_6 : decode cX10_isOther 6 = .ok (.getfield 7, 3) := by decide +kernel
theorem dX10_isOther_9 : decode cX10_isOther 9 = .ok (.iconst 0, 1) := by decide +kernel
theorem dX10_isOther_10 : decode cX10_isOther 10 = .ok (.iaload, 1) := by decide +kernel
theorem dX10_isOther_11 : decode cX10_isOther 11 = .ok (.if_icmp .gt 38, 3) := by decide +kernel
theorem dX10_isOther_14 : decode cX10_isOther 14 = .ok (.iload_n 1, 1) := by decide +kernel
theorem dX10_isOther_15 : decode cX10_isOther 15 = .ok (.ifCond .ne 22, 3) := by decide +kernel
theorem dX10_isOther_18 : decode cX10_isOther 18 = .ok (.aload_n 0, 1) := by decide +kernel
theorem dX10_isOther_19 : decode cX10_isOther 19 = .ok (.getfield 7, 3) := by decide +kernel
theorem dX10_isOther_22 : decode cX10_isOther 22 = .ok (.iload_n 2, 1) := by decide +kernel
theorem dX10_isOther_23 : decode cX10_isOther 23 = .ok (.iaload, 1) := by decide +kernel
theorem dX10_isOther_24 : decode cX10_isOther 24 = .ok (.aload_n 0, 1) := by decide +kernel
theorem dX10_isOther_25 : decode cX10_isOther 25 = .ok (.getfield 7, 3) := by decide +kernel
theorem dX10_isOther_28 : decode cX10_isOther 28 = .ok (.sipush 246, 3) := by decide +kernel
theorem dX10_isOther_31 : decode cX10_isOther 31 = .ok (.iload_n 2, 1) := by decide +kernel
theorem dX10_isOther_32 : decode cX10_isOther 32 = .ok (.iadd, 1) := by decide +kernel
theorem dX10_isOther_33 : decode cX10_isOther 33 = .ok (.iaload, 1) := by decide +kernel
theorem dX10_isOther_34 : decode cX10_isOther 34 = .ok (.if_icmp .eq 7, 3) := by decide +kernel
theorem dX10_isOther_37 : decode cX10_isOther 37 = .ok (.iconst 1, 1) := by decide +kernel
theorem dX10_isOther_38 : decode cX10_isOther 38 = .ok (.goto 4, 3) := by decide +kernel
theorem dX10_isOther_41 : decode cX10_isOther 41 = .ok (.iconst 0, 1) := by decide +kernel
theorem dX10_isOther_42 : decode cX10_isOther 42 = .ok (.istore_n 1, 1) := by decide +kernel
theorem dX10_isOther_43 : decode cX10_isOther 43 = .ok (.iinc 2 1, 3) := by decide +kernel
theorem dX10_isOther_46 : decode cX10_isOther 46 = .ok (.goto (-42), 3) := by decide +kernel
theorem dX10_isOther_49 : decode cX10_isOther 49 = .ok (.iload_n 1, 1) := by decide +kernel
theorem dX10_isOther_50 : decode cX10_isOther 50 = .ok (.ifCond .eq 14, 3) := by decide +kernel
theorem dX10_isOther_53 : decode cX10_isOther 53 = .ok (.aload_n 0, 1) := by decide +kernel
theorem dX10_isOther_54 : decode cX10_isOther 54 = .ok (.invokevirtual 74, 3) := by decide +kernel
theorem dX10_isOther_57 : decode cX10_isOther 57 = .ok (.aload_n 0, 1) := by decide +kernel
theorem dX10_isOther_58 : decode cX10_isOther 58 = .ok (.bipush 6, 2) := by decide +kernel
theorem dX10_isOther_60 : decode cX10_isOther 60 = .ok (.iconst 0, 1) := by decide +kernel
theorem dX10_isOther_61 : decode cX10_isOther 61 = .ok (.invokevirtual 24, 3) := by decide +kernel
theorem dX10_isOther_64 : decode cX10_isOther 64 = .ok (.iload_n 1, 1) := by decide +kernel
theorem dX10_isOther_65 : decode cX10_isOther 65 = .ok (.ireturn, 1) := by decide +kernel
set_option maxRecDepth 20000 in
theorem ggX10_reverse_X10_copies : GoodIn wsX10_reverse wsX10_copies := goodIn_r _ [6, 1, 20, 21, 22, 23, 24, 25] (by decide +kernel) (by decide +kernel)
set_option maxRecDepth 20000 in
theorem gX10_reverse_X10_copies : GoodIn wsX10_reverse (wsV RX10 24 RX10 yX10_copies wsX10_copies) := goodIn_app (goodIn_of _ (by decide +kernel)) ggX10_reverse_X10_copies
set_option maxRecDepth 20000 in
theorem ggX10_reverse_X10_letAt : GoodIn wsX10_reverse wsX10_letAt := goodIn_r _ [10, 1, 20, 21, 22, 23, 24, 25] (by decide +kernel) (by decide +kernel)
set_option maxRecDepth 20000 in
theorem gX10_reverse_X10_letAt : GoodIn wsX10_reverse (wsV RX10 32 RX10 yX10_letAt wsX10_letAt) := goodIn_app (goodIn_of _ (by decide +kernel)) ggX10_reverse_X10_letAt
set_option maxRecDepth 20000 in
theorem ggX10_reverse_X10_isOther : GoodIn wsX10_reverse wsX10_isOther := goodIn_r _ [14, 1, 15, 16, 17, 5, 18, 19, 2, 3, 4, 6, 20, 21, 22, 23, 24, 25] (by decide +kernel) (by decide +kernel)
set_option maxRecDepth 20000 in
theorem gX10_reverse_X10_isOther : GoodIn wsX10_reverse (wsV RX10 81 RX10 yX10_isOther wsX10_isOther) := goodIn_app (goodIn_of _ (by decide +kernel)) ggX10_reverse_X10_isOther
theorem dX10_reverse_0 : decode cX10_reverse 0 = .ok (.aload_n 0, 1) := by decide +kernel
theorem dX10_reverse_1 : decode cX10_reverse 1 = .ok (.iconst 0, 1) := by decide +kernel
theorem dX10_reverse_2 : decode cX10_reverse 2 = .ok (.bipush 6, 2) := by decide +kernel
theorem dX10_reverse_4 : decode cX10_reverse 4 = .ok (.invokevirtual 24, 3) := by decide +kernel
theorem dX10_reverse_7 : decode cX10_reverse 7 = .ok (.iconst 0, 1) := by decide +kernel
theorem dX10_reverse_8 : decode cX10_reverse 8 = .ok (.istore_n 1, 1) := by decide +kernel
theorem dX10_reverse_9 : decode cX10_reverse 9 = .ok (.iload_n 1, 1) := by decide +kernel
theorem dX10_reverse_10 : decode cX10_reverse 10 = .ok (.aload_n 0, 1) := by decide +kernel
theorem dX10_reverse_11 : decode cX10_reverse 11 = .ok (.getfield 7, 3) := by decide +kernel
theorem dX10_reverse_14 : decode cX10_reverse 14 = .ok (.iconst 0, 1) := by decide +kernel
theorem dX10_reverse_15 : decode cX10_reverse 15 = .ok (.iaload, 1) := by decide +kernel
theorem dX10_reverse_16 : decode cX10_reverse 16 = .ok (.if_icmp .ge 34, 3) := by decide +kernel
theorem dX10_reverse_19 : decode cX10_reverse 19 = .ok (.aload_n 0, 1) := by decide +kernel
theorem dX10_reverse_20 : decode cX10_reverse 20 = .ok (.getfield 7, 3) := by decide +kernel
theorem dX10_reverse_23 : decode cX10_reverse 23 = .ok (.sipush 247, 3) := by decide +kernel
theorem dX10_reverse_26 : decode cX10_reverse 26 = .ok (.iload_n 1, 1) := by decide +kernel
theorem dX10_reverse_27 : decode cX10_reverse 27 = .ok (.iadd, 1) := by decide +kernel
theorem dX10_reverse_28 : decode cX10_reverse 28 = .ok (.aload_n 0, 1) := by decide +kernel
theorem dX10_reverse_29 : decode cX10_reverse 29 = .ok (.iconst 0, 1) := by decide +kernel
theorem dX10_reverse_30 : decode cX10_reverse 30 = .ok (.aload_n 0, 1) := by decide +kernel
theorem dX10_reverse_31 : decode cX10_reverse 31 = .ok (.getfield 7, 3) := by decide +kernel
theorem dX10_reverse_34 : decode cX10_reverse 34 = .ok (.iconst 0, 1) := by decide +kernel
theorem dX10_reverse_35 : decode cX10_reverse 35 = .ok (.iaload, 1) := by decide +kernel
theorem dX10_reverse_36 : decode cX10_reverse 36 = .ok (.iconst 1, 1) := by decide +kernel
theorem dX10_reverse_37 : decode cX10_reverse 37 = .ok (.isub, 1) := by decide +kernel
theorem dX10_reverse_38 : decode cX10_reverse 38 = .ok (.iload_n 1, 1) := by decide +kernel
theorem dX10_reverse_39 : decode cX10_reverse 39 = .ok (.isub, 1) := by decide +kernel
theorem dX10_reverse_40 : decode cX10_reverse 40 = .ok (.invokevirtual 32, 3) := by decide +kernel
theorem dX10_reverse_43 : decode cX10_reverse 43 = .ok (.iastore, 1) := by decide +kernel
theorem dX10_reverse_44 : decode cX10_reverse 44 = .ok (.iinc 1 1, 3) := by decide +kernel
theorem dX10_reverse_47 : decode cX10_reverse 47 = .ok (.goto (-38), 3) := by decide +kernel
theorem dX10_reverse_50 : decode cX10_reverse 50 = .ok (.aload_n 0, 1) := by decide +kernel
theorem dX10_reverse_51 : decode cX10_reverse 51 = .ok (.invokevirtual 81, 3) := by decide +kernel
theorem dX10_reverse_54 : decode cX10_reverse 54 = .ok (.ifCond .eq 12, 3) := by decide +kernel
theorem dX10_reverse_57 : decode cX10_reverse 57 = .ok (.aload_n 0, 1) := by decide +kernel
theorem dX10_reverse_58 : decode cX10_reverse 58 = .ok (.getfield 7, 3) := by decide +kernel
theorem dX10_reverse_61 : decode cX10_reverse 61 = .ok (.iconst 0, 1) := by decide +kernel
theorem dX10_reverse_62 : decode cX10_reverse 62 = .ok (.iaload, 1) := by decide +kernel
theorem dX10_reverse_63 : decode cX10_reverse 63 = .ok (.goto 5, 3) := by decide +kernel
theorem dX10_reverse_66 : decode cX10_reverse 66 = .ok (.bipush (-4), 2) := by decide +kernel
theorem dX10_reverse_68 : decode cX10_reverse 68 = .ok (.ireturn, 1) := by decide +kernel
set_option maxRecDepth 20000 in
theorem ggX10_turn_X10_in : GoodIn wsX10_turn wsX10_in := goodIn_r _ [5] (by decide +kernel) (by decide +kernel)
set_option maxRecDepth 20000 in
theorem gX10_turn_X10_in : GoodIn wsX10_turn (va_wsS RX10 28 yX10_in wsX10_in) := goodIn_app (goodIn_of _ (by decide +kernel)) ggX10_turn_X10_in
set_option maxRecDepth 20000 in
theorem ggX10_turn_X10_copies : GoodIn wsX10_turn wsX10_copies := goodIn_r _ [9, 1, 23, 24, 25, 26, 27, 28] (by decide +kernel) (by decide +kernel)
set_option maxRecDepth 20000 in
theorem gX10_turn_X10_copies : GoodIn wsX10_turn (wsV RX10 24 RX10 yX10_copies wsX10_copies) := goodIn_app (goodIn_of _ (by decide +kernel)) ggX10_turn_X10_copies
set_option maxRecDepth 20000 in
theorem ggX10_turn_X10_letAt : GoodIn wsX10_turn wsX10_letAt := goodIn_r _ [13, 1, 23, 24, 25, 26, 27, 28] (by decide +kernel) (by decide +kernel)
set_option maxRecDepth 20000 in
theorem gX10_turn_X10_letAt : GoodIn wsX10_turn (wsV RX10 32 RX10 yX10_letAt wsX10_letAt) := goodIn_app (goodIn_of _ (by decide +kernel)) ggX10_turn_X10_letAt
set_option maxRecDepth 20000 in
theorem ggX10_turn_X10_isOther : GoodIn wsX10_turn wsX10_isOther := goodIn_r _ [17, 1, 18, 19, 20, 4, 21, 22, 6, 7, 8, 9, 23, 24, 25, 26, 27, 28] (by decide +kernel) (by decide +kernel)
set_option maxRecDepth 20000 in
theorem gX10_turn_X10_isOther : GoodIn wsX10_turn (wsV RX10 81 RX10 yX10_isOther wsX10_isOther) := goodIn_app (goodIn_of _ (by decide +kernel)) ggX10_turn_X10_isOther
theorem dX10_turn_0 : decode cX10_turn 0 = .ok (.iload_n 1, 1) := by decide +kernel
theorem dX10_turn_1 : decode cX10_turn 1 = .ok (.iconst 1, 1) := by decide +kernel
theorem dX10_turn_2 : decode cX10_turn 2 = .ok (.bipush 39, 2) := by decide +kernel
theorem dX10_turn_4 : decode cX10_turn 4 = .ok (.invokestatic 28, 3) := by decide +kernel
theorem dX10_turn_7 : decode cX10_turn 7 = .ok (.ifCond .ne 6, 3) := by decide +kernel
theorem dX10_turn_10 : decode cX10_turn 10 = .ok (.bipush (-2), 2) := by decide +kernel
theorem dX10_turn_12 : decode cX10_turn 12 = .ok (.ireturn, 1) := by decide +kernel
theorem dX10_turn_13 : decode cX10_turn 13 = .ok (.aload_n 0, 1) := by decide +kernel
theorem dX10_turn_14 : decode cX10_turn 14 = .ok (.getfield 7, 3) := by decide +kernel
theorem dX10_turn_17 : decode cX10_turn 17 = .ok (.iconst 0, 1) := by decide +kernel
theorem dX10_turn_18 : decode cX10_turn 18 = .ok (.iaload, 1) := by decide +kernel
theorem dX10_turn_19 : decode cX10_turn 19 = .ok (.iload_n 1, 1) := by decide +kernel
theorem dX10_turn_20 : decode cX10_turn 20 = .ok (.if_icmp .gt 5, 3) := by decide +kernel
theorem dX10_turn_23 : decode cX10_turn 23 = .ok (.iconst (-1), 1) := by decide +kernel
theorem dX10_turn_24 : decode cX10_turn 24 = .ok (.ireturn, 1) := by decide +kernel
theorem dX10_turn_25 : decode cX10_turn 25 = .ok (.aload_n 0, 1) := by decide +kernel
theorem dX10_turn_26 : decode cX10_turn 26 = .ok (.iconst 0, 1) := by decide +kernel
theorem dX10_turn_27 : decode cX10_turn 27 = .ok (.bipush 6, 2) := by decide +kernel
theorem dX10_turn_29 : decode cX10_turn 29 = .ok (.invokevirtual 24, 3) := by decide +kernel
theorem dX10_turn_32 : decode cX10_turn 32 = .ok (.iconst 0, 1) := by decide +kernel
theorem dX10_turn_33 : decode cX10_turn 33 = .ok (.istore_n 2, 1) := by decide +kernel
theorem dX10_turn_34 : decode cX10_turn 34 = .ok (.iload_n 2, 1) := by decide +kernel
theorem dX10_turn_35 : decode cX10_turn 35 = .ok (.aload_n 0, 1) := by decide +kernel
theorem dX10_turn_36 : decode cX10_turn 36 = .ok (.getfield 7, 3) := by decide +kernel
theorem dX10_turn_39 : decode cX10_turn 39 = .ok (.iconst 0, 1) := by decide +kernel
theorem dX10_turn_40 : decode cX10_turn 40 = .ok (.iaload, 1) := by decide +kernel
theorem dX10_turn_41 : decode cX10_turn 41 = .ok (.if_icmp .ge 34, 3) := by decide +kernel
theorem dX10_turn_44 : decode cX10_turn 44 = .ok (.aload_n 0, 1) := by decide +kernel
theorem dX10_turn_45 : decode cX10_turn 45 = .ok (.getfield 7, 3) := by decide +kernel
theorem dX10_turn_48 : decode cX10_turn 48 = .ok (.sipush 247, 3) := by decide +kernel
theorem dX10_turn_51 : decode cX10_turn 51 = .ok (.iload_n 2, 1) := by decide +kernel
theorem dX10_turn_52 : decode cX10_turn 52 = .ok (.iadd, 1) := by decide +kernel
theorem dX10_turn_53 : decode cX10_turn 53 = .ok (.aload_n 0, 1) := by decide +kernel
theorem dX10_turn_54 : decode cX10_turn 54 = .ok (.iconst 0, 1) := by decide +kernel
theorem dX10_turn_55 : decode cX10_turn 55 = .ok (.iload_n 2, 1) := by decide +kernel
theorem dX10_turn_56 : decode cX10_turn 56 = .ok (.iload_n 1, 1) := by decide +kernel
theorem dX10_turn_57 : decode cX10_turn 57 = .ok (.iadd, 1) := by decide +kernel
theorem dX10_turn_58 : decode cX10_turn 58 = .ok (.aload_n 0, 1) := by decide +kernel
theorem dX10_turn_59 : decode cX10_turn 59 = .ok (.getfield 7, 3) := by decide +kernel
theorem dX10_turn_62 : decode cX10_turn 62 = .ok (.iconst 0, 1) := by decide +kernel
theorem dX10_turn_63 : decode cX10_turn 63 = .ok (.iaload, 1) := by decide +kernel
theorem dX10_turn_64 : decode cX10_turn 64 = .ok (.irem, 1) := by decide +kernel
theorem dX10_turn_65 : decode cX10_turn 65 = .ok (.invokevirtual 32, 3) := by decide +kernel
theorem dX10_turn_68 : decode cX10_turn 68 = .ok (.iastore, 1) := by decide +kernel
theorem dX10_turn_69 : decode cX10_turn 69 = .ok (.iinc 2 1, 3) := by decide +kernel
theorem dX10_turn_72 : decode cX10_turn 72 = .ok (.goto (-38), 3) := by decide +kernel
theorem dX10_turn_75 : decode cX10_turn 75 = .ok (.aload_n 0, 1) := by decide +kernel
theorem dX10_turn_76 : decode cX10_turn 76 = .ok (.invokevirtual 81, 3) := by decide +kernel
theorem dX10_turn_79 : decode cX10_turn 79 = .ok (.ifCond .eq 12, 3) := by decide +kernel
theorem dX10_turn_82 : decode cX10_turn 82 = .ok (.aload_n 0, 1) := by decide +kernel
theorem dX10_turn_83 : decode cX10_turn 83 = .ok (.iconst 0, 1) := by decide +kernel
theorem dX10_turn_84 : decode cX10_turn 84 = .ok (.iconst 0, 1) := by decide +kernel
theorem dX10_turn_85 : decode cX10_turn 85 = .ok (.invokevirtual 32, 3) := by decide +kernel
theorem dX10_turn_88 : decode cX10_turn 88 = .ok (.goto 5, 3) := by decide +kernel
theorem dX10_turn_91 : decode cX10_turn 91 = .ok (.bipush (-4), 2) := by decide +kernel
theorem dX10_turn_93 : decode cX10_turn 93 = .ok (.ireturn, 1) := by decide +kernel
set_option maxRecDepth 20000 in
theorem ggX10_fold_X10_isFactor : GoodIn wsX10_fold wsX10_isFactor := goodIn_r _ [6, 1, 20, 21, 22, 23, 24, 25] (by decide +kernel) (by decide +kernel)
set_option maxRecDepth 20000 in
theorem gX10_fold_X10_isFactor : GoodIn wsX10_fold (wsV RX10 85 RX10 yX10_isFactor wsX10_isFactor) := goodIn_app (goodIn_of _ (by decide +kernel)) ggX10_fold_X10_isFactor
set_option maxRecDepth 20000 in
theorem ggX10_fold_X10_records : GoodIn wsX10_fold wsX10_records := goodIn_r _ [10, 11, 12, 13, 14, 5, 15, 1, 20, 21, 22, 23, 24, 25] (by decide +kernel) (by decide +kernel)
set_option maxRecDepth 20000 in
theorem gX10_fold_X10_records : GoodIn wsX10_fold (wsV RX10 74 RX10 yX10_records wsX10_records) := goodIn_app (goodIn_of _ (by decide +kernel)) ggX10_fold_X10_records
set_option maxRecDepth 20000 in
theorem ggX10_fold_X10_letAt : GoodIn wsX10_fold wsX10_letAt := goodIn_r _ [19, 1, 20, 21, 22, 23, 24, 25] (by decide +kernel) (by decide +kernel)
set_option maxRecDepth 20000 in
theorem gX10_fold_X10_letAt : GoodIn wsX10_fold (wsV RX10 32 RX10 yX10_letAt wsX10_letAt) := goodIn_app (goodIn_of _ (by decide +kernel)) ggX10_fold_X10_letAt
theorem dX10_fold_0 : decode cX10_fold 0 = .ok (.aload_n 0, 1) := by decide +kernel
theorem dX10_fold_1 : decode cX10_fold 1 = .ok (.iload_n 1, 1) := by decide +kernel
theorem dX10_fold_2 : decode cX10_fold 2 = .ok (.iload_n 2, 1) := by decide +kernel
theorem dX10_fold_3 : decode cX10_fold 3 = .ok (.invokevirtual 85, 3) := by decide +kernel
theorem dX10_fold_6 : decode cX10_fold 6 = .ok (.ifCond .ne 5, 3) := by decide +kernel
theorem dX10_fold_9 : decode cX10_fold 9 = .ok (.iconst (-1), 1) := by decide +kernel
theorem dX10_fold_10 : decode cX10_fold 10 = .ok (.ireturn, 1) := by decide +kernel
theorem dX10_fold_11 : decode cX10_fold 11 = .ok (.aload_n 0, 1) := by decide +kernel
theorem dX10_fold_12 : decode cX10_fold 12 = .ok (.getfield 7, 3) := by decide +kernel
theorem dX10_fold_15 : decode cX10_fold 15 = .ok (.iconst 0, 1) := by decide +kernel
theorem dX10_fold_16 : decode cX10_fold 16 = .ok (.iaload, 1) := by decide +kernel
theorem dX10_fold_17 : decode cX10_fold 17 = .ok (.iload_n 2, 1) := by decide +kernel
theorem dX10_fold_18 : decode cX10_fold 18 = .ok (.iadd, 1) := by decide +kernel
theorem dX10_fold_19 : decode cX10_fold 19 = .ok (.iload_n 1, 1) := by decide +kernel
theorem dX10_fold_20 : decode cX10_fold 20 = .ok (.isub, 1) := by decide +kernel
theorem dX10_fold_21 : decode cX10_fold 21 = .ok (.bipush 40, 2) := by decide +kernel
theorem dX10_fold_23 : decode cX10_fold 23 = .ok (.if_icmp .le 6, 3) := by decide +kernel
theorem dX10_fold_26 : decode cX10_fold 26 = .ok (.bipush (-3), 2) := by decide +kernel
theorem dX10_fold_28 : decode cX10_fold 28 = .ok (.ireturn, 1) := by decide +kernel
theorem dX10_fold_29 : decode cX10_fold 29 = .ok (.aload_n 0, 1) := by decide +kernel
theorem dX10_fold_30 : decode cX10_fold 30 = .ok (.invokevirtual 74, 3) := by decide +kernel
theorem dX10_fold_33 : decode cX10_fold 33 = .ok (.iload_n 1, 1) := by decide +kernel
theorem dX10_fold_34 : decode cX10_fold 34 = .ok (.istore_n 3, 1) := by decide +kernel
theorem dX10_fold_35 : decode cX10_fold 35 = .ok (.iload_n 3, 1) := by decide +kernel
theorem dX10_fold_36 : decode cX10_fold 36 = .ok (.iload_n 2, 1) := by decide +kernel
theorem dX10_fold_37 : decode cX10_fold 37 = .ok (.if_icmp .ge 36, 3) := by decide +kernel
theorem dX10_fold_40 : decode cX10_fold 40 = .ok (.aload_n 0, 1) := by decide +kernel
theorem dX10_fold_41 : decode cX10_fold 41 = .ok (.getfield 7, 3) := by decide +kernel
theorem dX10_fold_44 : decode cX10_fold 44 = .ok (.iconst 0, 1) := by decide +kernel
theorem dX10_fold_45 : decode cX10_fold 45 = .ok (.dup2, 1) := by decide +kernel
theorem dX10_fold_46 : decode cX10_fold 46 = .ok (.iaload, 1) := by decide +kernel
theorem dX10_fold_47 : decode cX10_fold 47 = .ok (.iconst 1, 1) := by decide +kernel
theorem dX10_fold_48 : decode cX10_fold 48 = .ok (.iadd, 1) := by decide +kernel
theorem dX10_fold_49 : decode cX10_fold 49 = .ok (.iastore, 1) := by decide +kernel
theorem dX10_fold_50 : decode cX10_fold 50 = .ok (.aload_n 0, 1) := by decide +kernel
theorem dX10_fold_51 : decode cX10_fold 51 = .ok (.getfield 7, 3) := by decide +kernel
theorem dX10_fold_54 : decode cX10_fold 54 = .ok (.aload_n 0, 1) := by decide +kernel
theorem dX10_fold_55 : decode cX10_fold 55 = .ok (.getfield 7, 3) := by decide +kernel
theorem dX10_fold_58 : decode cX10_fold 58 = .ok (.iconst 0, 1) := by decide +kernel
theorem dX10_fold_59 : decode cX10_fold 59 = .ok (.iaload, 1) := by decide +kernel
theorem dX10_fold_60 : decode cX10_fold 60 = .ok (.aload_n 0, 1) := by decide +kernel
theorem dX10_fold_61 : decode cX10_fold 61 = .ok (.iconst 0, 1) := by decide +kernel
theorem dX10_fold_62 : decode cX10_fold 62 = .ok (.iload_n 3, 1) := by decide +kernel
theorem dX10_fold_63 : decode cX10_fold 63 = .ok (.invokevirtual 32, 3) := by decide +kernel
theorem dX10_fold_66 : decode cX10_fold 66 = .ok (.iastore, 1) := by decide +kernel
theorem dX10_fold_67 : decode cX10_fold 67 = .ok (.iinc 3 1, 3) := by decide +kernel
theorem dX10_fold_70 : decode cX10_fold 70 = .ok (.goto (-35), 3) := by decide +kernel
theorem dX10_fold_73 : decode cX10_fold 73 = .ok (.aload_n 0, 1) := by decide +kernel
theorem dX10_fold_74 : decode cX10_fold 74 = .ok (.getfield 7, 3) := by decide +kernel
theorem dX10_fold_77 : decode cX10_fold 77 = .ok (.iconst 0, 1) := by decide +kernel
theorem dX10_fold_78 : decode cX10_fold 78 = .ok (.iaload, 1) := by decide +kernel
theorem dX10_fold_79 : decode cX10_fold 79 = .ok (.ireturn, 1) := by decide +kernel
set_option maxRecDepth 20000 in
theorem ggX10_isLetter_X10_in : GoodIn wsX10_isLetter wsX10_in := goodIn_r _ [6] (by decide +kernel) (by decide +kernel)
set_option maxRecDepth 20000 in
theorem gX10_isLetter_X10_in : GoodIn wsX10_isLetter (va_wsS RX10 28 yX10_in wsX10_in) := goodIn_app (goodIn_of _ (by decide +kernel)) ggX10_isLetter_X10_in
theorem dX10_isLetter_0 : decode cX10_isLetter 0 = .ok (.iload_n 1, 1) := by decide +kernel
theorem dX10_isLetter_1 : decode cX10_isLetter 1 = .ok (.aload_n 0, 1) := by decide +kernel
theorem dX10_isLetter_2 : decode cX10_isLetter 2 = .ok (.getfield 88, 3) := by decide +kernel
theorem dX10_isLetter_5 : decode cX10_isLetter 5 = .ok (.if_icmp .ge 23, 3) := by decide +kernel
theorem dX10_isLetter_8 : decode cX10_isLetter 8 = .ok (.aload_n 0, 1) := by decide +kernel
theorem dX10_isLetter_9 : decode cX10_isLetter 9 = .ok (.getfield 13, 3) := by decide +kernel
theorem dX10_isLetter_12 : decode cX10_isLetter 12 = .ok (.iload_n 1, 1) := by decide +kernel
theorem dX10_isLetter_13 : decode cX10_isLetter 13 = .ok (.caload, 1) := by decide +kernel
theorem dX10_isLetter_14 : decode cX10_isLetter 14 = .ok (.bipush 97, 2) := by decide +kernel
theorem dX10_isLetter_16 : decode cX10_isLetter 16 = .ok (.bipush 122, 2) := by decide +kernel
theorem dX10_isLetter_18 : decode cX10_isLetter 18 = .ok (.invokestatic 28, 3) := by decide +kernel
theorem dX10_isLetter_21 : decode cX10_isLetter 21 = .ok (.ifCond .eq 7, 3) := by decide +kernel
theorem dX10_isLetter_24 : decode cX10_isLetter 24 = .ok (.iconst 1, 1) := by decide +kernel
theorem dX10_isLetter_25 : decode cX10_isLetter 25 = .ok (.goto 4, 3) := by decide +kernel
theorem dX10_isLetter_28 : decode cX10_isLetter 28 = .ok (.iconst 0, 1) := by decide +kernel
theorem dX10_isLetter_29 : decode cX10_isLetter 29 = .ok (.ireturn, 1) := by decide +kernel
set_option maxRecDepth 20000 in
theorem ggX10_reads_X10_isLetter : GoodIn wsX10_reads wsX10_isLetter := goodIn_r _ [8, 2, 3, 9, 10, 7, 11, 12, 13, 14, 15, 16, 17] (by decide +kernel) (by decide +kernel)
set_option maxRecDepth 20000 in
theorem gX10_reads_X10_isLetter : GoodIn wsX10_reads (wsV RX10 91 RX10 yX10_isLetter wsX10_isLetter) := goodIn_app (goodIn_of _ (by decide +kernel)) ggX10_reads_X10_isLetter
set_option maxRecDepth 20000 in
theorem ggX10_reads_X10_in : GoodIn wsX10_reads wsX10_in := goodIn_r _ [11] (by decide +kernel) (by decide +kernel)
set_option maxRecDepth 20000 in
theorem gX10_reads_X10_in : GoodIn wsX10_reads (va_wsS RX10 28 yX10_in wsX10_in) := goodIn_app (goodIn_of _ (by decide +kernel)) ggX10_reads_X10_in
theorem dX10_reads_0 : decode cX10_reads 0 = .ok (.sipush 246, 3) := by decide +kernel
theorem dX10_reads_3 : decode cX10_reads 3 = .ok (.istore_n 1, 1) := by decide +kernel
theorem dX10_reads_4 : decode cX10_reads 4 = .ok (.aload_n 0, 1) := by decide +kernel
theorem dX10_reads_5 : decode cX10_reads 5 = .ok (.getfield 7, 3) := by decide +kernel
theorem dX10_reads_8 : decode cX10_reads 8 = .ok (.iload_n 1, 1) := by decide +kernel
theorem dX10_reads_9 : decode cX10_reads 9 = .ok (.iconst 0, 1) := by decide +kernel
theorem dX10_reads_10 : decode cX10_reads 10 = .ok (.iastore, 1) := by decide +kernel
theorem dX10_reads_11 : decode cX10_reads 11 = .ok (.iconst 0, 1) := by decide +kernel
theorem dX10_reads_12 : decode cX10_reads 12 = .ok (.istore_n 2, 1) := by decide +kernel
theorem dX10_reads_13 : decode cX10_reads 13 = .ok (.iload_n 2, 1) := by decide +kernel
theorem dX10_reads_14 : decode cX10_reads 14 = .ok (.aload_n 0, 1) := by decide +kernel
theorem dX10_reads_15 : decode cX10_reads 15 = .ok (.getfield 88, 3) := by decide +kernel
theorem dX10_reads_18 : decode cX10_reads 18 = .ok (.if_icmp .lt 7, 3) := by decide +kernel
theorem dX10_reads_21 : decode cX10_reads 21 = .ok (.iload_n 2, 1) := by decide +kernel
theorem dX10_reads_22 : decode cX10_reads 22 = .ok (.ifCond .ne 292, 3) := by decide +kernel
theorem dX10_reads_25 : decode cX10_reads 25 = .ok (.aload_n 0, 1) := by decide +kernel
theorem dX10_reads_26 : decode cX10_reads 26 = .ok (.getfield 7, 3) := by decide +kernel
theorem dX10_reads_29 : decode cX10_reads 29 = .ok (.iload_n 1, 1) := by decide +kernel
theorem dX10_reads_30 : decode cX10_reads 30 = .ok (.iaload, 1) := by decide +kernel
theorem dX10_reads_31 : decode cX10_reads 31 = .ok (.istore_n 3, 1) := by decide +kernel
theorem dX10_reads_32 : decode cX10_reads 32 = .ok (.iload_n 2, 1) := by decide +kernel
theorem dX10_reads_33 : decode cX10_reads 33 = .ok (.aload_n 0, 1) := by decide +kernel
theorem dX10_reads_34 : decode cX10_reads 34 = .ok (.getfield 88, 3) := by decide +kernel
theorem dX10_reads_37 : decode cX10_reads 37 = .ok (.if_icmp .ge 18, 3) := by decide +kernel
theorem dX10_reads_40 : decode cX10_reads 40 = .ok (.aload_n 0, 1) := by decide +kernel
theorem dX10_reads_41 : decode cX10_reads 41 = .ok (.getfield 13, 3) := by decide +kernel
theorem dX10_reads_44 : decode cX10_reads 44 = .ok (.iload_n 2, 1) := by decide +kernel
theorem dX10_reads_45 : decode cX10_reads 45 = .ok (.caload, 1) := by decide +kernel
theorem dX10_reads_46 : decode cX10_reads 46 = .ok (.bipush 40, 2) := by decide +kernel
theorem dX10_reads_48 : decode cX10_reads 48 = .ok (.if_icmp .ne 7, 3) := by decide +kernel
theorem dX10_reads_51 : decode cX10_reads 51 = .ok (.iconst 1, 1) := by decide +kernel
theorem dX10_reads_52 : decode cX10_reads 52 = .ok (.goto 4, 3) := by decide +kernel
theorem dX10_reads_55 : decode cX10_reads 55 = .ok (.iconst 0, 1) := by decide +kernel
theorem dX10_reads_56 : decode cX10_reads 56 = .ok (.istore 4, 2) := by decide +kernel
theorem dX10_reads_58 : decode cX10_reads 58 = .ok (.iload_n 2, 1) := by decide +kernel
theorem dX10_reads_59 : decode cX10_reads 59 = .ok (.iload 4, 2) := by decide +kernel
theorem dX10_reads_61 : decode cX10_reads 61 = .ok (.ifCond .eq 7, 3) := by decide +kernel
theorem dX10_reads_64 : decode cX10_reads 64 = .ok (.iconst 1, 1) := by decide +kernel
theorem dX10_reads_65 : decode cX10_reads 65 = .ok (.goto 4, 3) := by decide +kernel
theorem dX10_reads_68 : decode cX10_reads 68 = .ok (.iconst 0, 1) := by decide +kernel
theorem dX10_reads_69 : decode cX10_reads 69 = .ok (.iadd, 1) := by decide +kernel
theorem dX10_reads_70 : decode cX10_reads 70 = .ok (.istore_n 2, 1) := by decide +kernel
theorem dX10_reads_71 : decode cX10_reads 71 = .ok (.iload_n 2, 1) := by decide +kernel
theorem dX10_reads_72 : decode cX10_reads 72 = .ok (.istore 5, 2) := by decide +kernel
theorem dX10_reads_74 : decode cX10_reads 74 = .ok (.aload_n 0, 1) := by decide +kernel
theorem dX10_reads_75 : decode cX10_reads 75 = .ok (.iload_n 2, 1) := by decide +kernel
theorem dX10_reads_76 : decode cX10_reads 76 = .ok (.invokevirtual 91, 3) := by decide +kernel
theorem dX10_reads_79 : decode cX10_reads 79 = .ok (.ifCond .eq 63, 3) := by decide +kernel
theorem dX10_reads_82 : decode cX10_reads 82 = .ok (.aload_n 0, 1) := by decide +kernel
theorem dX10_reads_83 : decode cX10_reads 83 = .ok (.getfield 7, 3) := by decide +kernel
theorem dX10_reads_86 : decode cX10_reads 86 = .ok (.iload_n 1, 1) := by decide +kernel
theorem dX10_reads_87 : decode cX10_reads 87 = .ok (.iaload, 1) := by decide +kernel
theorem dX10_reads_88 : decode cX10_reads 88 = .ok (.bipush 40, 2) := by decide +kernel
theorem dX10_reads_90 : decode cX10_reads 90 = .ok (.if_icmp .ge 52, 3) := by decide +kernel
theorem dX10_reads_93 : decode cX10_reads 93 = .ok (.iload 4, 2) := by decide +kernel
theorem dX10_reads_95 : decode cX10_reads 95 = .ok (.ifCond .ne 9, 3) := by decide +kernel
theorem dX10_reads_98 : decode cX10_reads 98 = .ok (.iload_n 2, 1) := by decide +kernel
theorem dX10_reads_99 : decode cX10_reads 99 = .ok (.iload 5, 2) := by decide +kernel
theorem dX10_reads_101 : decode cX10_reads 101 = .ok (.if_icmp .ne 41, 3) := by decide +kernel
theorem dX10_reads_104 : decode cX10_reads 104 = .ok (.aload_n 0, 1) := by decide +kernel
theorem dX10_reads_105 : decode cX10_reads 105 = .ok (.getfield 7, 3) := by decide +kernel
theorem dX10_reads_108 : decode cX10_reads 108 = .ok (.iload_n 1, 1) := by decide +kernel
theorem dX10_reads_109 : decode cX10_reads 109 = .ok (.dup2, 1) := by decide +kernel
theorem dX10_reads_110 : decode cX10_reads 110 = .ok (.iaload, 1) := by decide +kernel
theorem dX10_reads_111 : decode cX10_reads 111 = .ok (.iconst 1, 1) := by decide +kernel
theorem dX10_reads_112 : decode cX10_reads 112 = .ok (.iadd, 1) := by decide +kernel
theorem dX10_reads_113 : decode cX10_reads 113 = .ok (.iastore, 1) := by decide +kernel
theorem dX10_reads_114 : decode cX10_reads 114 = .ok (.aload_n 0, 1) := by decide +kernel
theorem dX10_reads_115 : decode cX10_reads 115 = .ok (.getfield 7, 3) := by decide +kernel
theorem dX10_reads_118 : decode cX10_reads 118 = .ok (.iload_n 1, 1) := by decide +kernel
theorem dX10_reads_119 : decode cX10_reads 119 = .ok (.aload_n 0, 1) := by decide +kernel
theorem dX10_reads_120 : decode cX10_reads 120 = .ok (.getfield 7, 3) := by decide +kernel
theorem dX10_reads_123 : decode cX10_reads 123 = .ok (.iload_n 1, 1) := by decide +kernel
theorem dX10_reads_124 : decode cX10_reads 124 = .ok (.iaload, 1) := by decide +kernel
theorem dX10_reads_125 : decode cX10_reads 125 = .ok (.iadd, 1) := by decide +kernel
theorem dX10_reads_126 : decode cX10_reads 126 = .ok (.aload_n 0, 1) := by decide +kernel
theorem dX10_reads_127 : decode cX10_reads 127 = .ok (.getfield 13, 3) := by decide +kernel
theorem dX10_reads_130 : decode cX10_reads 130 = .ok (.iload_n 2, 1) := by decide +kernel
theorem dX10_reads_131 : decode cX10_reads 131 = .ok (.caload, 1) := by decide +kernel
theorem dX10_reads_132 : decode cX10_reads 132 = .ok (.bipush 97, 2) := by decide +kernel
theorem dX10_reads_134 : decode cX10_reads 134 = .ok (.isub, 1) := by decide +kernel
theorem dX10_reads_135 : decode cX10_reads 135 = .ok (.iastore, 1) := by decide +kernel
theorem dX10_reads_136 : decode cX10_reads 136 = .ok (.iinc 2 1, 3) := by decide +kernel
theorem dX10_reads_139 : decode cX10_reads 139 = .ok (.goto (-65), 3) := by decide +kernel
theorem dX10_reads_142 : decode cX10_reads 142 = .ok (.iload_n 2, 1) := by decide +kernel
theorem dX10_reads_143 : decode cX10_reads 143 = .ok (.iload 5, 2) := by decide +kernel
theorem dX10_reads_145 : decode cX10_reads 145 = .ok (.if_icmp .ne 5, 3) := by decide +kernel
theorem dX10_reads_148 : decode cX10_reads 148 = .ok (.iload_n 2, 1) := by decide +kernel
theorem dX10_reads_149 : decode cX10_reads 149 = .ok (.ireturn, 1) := by decide +kernel
theorem dX10_reads_150 : decode cX10_reads 150 = .ok (.iload 4, 2) := by decide +kernel
theorem dX10_reads_152 : decode cX10_reads 152 = .ok (.ifCond .eq 24, 3) := by decide +kernel
theorem dX10_reads_155 : decode cX10_reads 155 = .ok (.iload_n 2, 1) := by decide +kernel
theorem dX10_reads_156 : decode cX10_reads 156 = .ok (.aload_n 0, 1) := by decide +kernel
theorem dX10_reads_157 : decode cX10_reads 157 = .ok (.getfield 88, 3) := by decide +kernel
theorem dX10_reads_160 : decode cX10_reads 160 = .ok (.if_icmp .eq 14, 3) := by decide +kernel
theorem dX10_reads_163 : decode cX10_reads 163 = .ok (.aload_n 0, 1) := by decide +kernel
theorem dX10_reads_164 : decode cX10_reads 164 = .ok (.getfield 13, 3) := by decide +kernel
theorem dX10_reads_167 : decode cX10_reads 167 = .ok (.iload_n 2, 1) := by decide +kernel
theorem dX10_reads_168 : decode cX10_reads 168 = .ok (.caload, 1) := by decide +kernel
theorem dX10_reads_169 : decode cX10_reads 169 = .ok (.bipush 41, 2) := by decide +kernel
theorem dX10_reads_171 : decode cX10_reads 171 = .ok (.if_icmp .eq 5, 3) := by decide +kernel
theorem dX10_reads_174 : decode cX10_reads 174 = .ok (.iload_n 2, 1) := by decide +kernel
theorem dX10_reads_175 : decode cX10_reads 175 = .ok (.ireturn, 1) := by decide +kernel
theorem dX10_reads_176 : decode cX10_reads 176 = .ok (.iload_n 2, 1) := by decide +kernel
theorem dX10_reads_177 : decode cX10_reads 177 = .ok (.iload 4, 2) := by decide +kernel
theorem dX10_reads_179 : decode cX10_reads 179 = .ok (.ifCond .eq 7, 3) := by decide +kernel
theorem dX10_reads_182 : decode cX10_reads 182 = .ok (.iconst 1, 1) := by decide +kernel
theorem dX10_reads_183 : decode cX10_reads 183 = .ok (.goto 4, 3) := by decide +kernel
theorem dX10_reads_186 : decode cX10_reads 186 = .ok (.iconst 0, 1) := by decide +kernel
theorem dX10_reads_187 : decode cX10_reads 187 = .ok (.iadd, 1) := by decide +kernel
theorem dX10_reads_188 : decode cX10_reads 188 = .ok (.istore_n 2, 1) := by decide +kernel
theorem dX10_reads_189 : decode cX10_reads 189 = .ok (.aload_n 0, 1) := by decide +kernel
theorem dX10_reads_190 : decode cX10_reads 190 = .ok (.getfield 7, 3) := by decide +kernel
theorem dX10_reads_193 : decode cX10_reads 193 = .ok (.iload_n 1, 1) := by decide +kernel
theorem dX10_reads_194 : decode cX10_reads 194 = .ok (.iaload, 1) := by decide +kernel
theorem dX10_reads_195 : decode cX10_reads 195 = .ok (.iload_n 3, 1) := by decide +kernel
theorem dX10_reads_196 : decode cX10_reads 196 = .ok (.isub, 1) := by decide +kernel
theorem dX10_reads_197 : decode cX10_reads 197 = .ok (.istore 6, 2) := by decide +kernel
theorem dX10_reads_199 : decode cX10_reads 199 = .ok (.iload_n 2, 1) := by decide +kernel
theorem dX10_reads_200 : decode cX10_reads 200 = .ok (.aload_n 0, 1) := by decide +kernel
theorem dX10_reads_201 : decode cX10_reads 201 = .ok (.getfield 88, 3) := by decide +kernel
theorem dX10_reads_204 : decode cX10_reads 204 = .ok (.if_icmp .ge 107, 3) := by decide +kernel
theorem dX10_reads_207 : decode cX10_reads 207 = .ok (.aload_n 0, 1) := by decide +kernel
theorem dX10_reads_208 : decode cX10_reads 208 = .ok (.getfield 13, 3) := by decide +kernel
theorem dX10_reads_211 : decode cX10_reads 211 = .ok (.iload_n 2, 1) := by decide +kernel
theorem dX10_reads_212 : decode cX10_reads 212 = .ok (.caload, 1) := by decide +kernel
theorem dX10_reads_213 : decode cX10_reads 213 = .ok (.bipush 50, 2) := by decide +kernel
theorem dX10_reads_215 : decode cX10_reads 215 = .ok (.bipush 57, 2) := by decide +kernel
theorem dX10_reads_217 : decode cX10_reads 217 = .ok (.invokestatic 28, 3) := by decide +kernel
theorem dX10_reads_220 : decode cX10_reads 220 = .ok (.ifCond .eq 91, 3) := by decide +kernel
theorem dX10_reads_223 : decode cX10_reads 223 = .ok (.aload_n 0, 1) := by decide +kernel
theorem dX10_reads_224 : decode cX10_reads 224 = .ok (.getfield 13, 3) := by decide +kernel
theorem dX10_reads_227 : decode cX10_reads 227 = .ok (.iload_n 2, 1) := by decide +kernel
theorem dX10_reads_228 : decode cX10_reads 228 = .ok (.caload, 1) := by decide +kernel
theorem dX10_reads_229 : decode cX10_reads 229 = .ok (.bipush 48, 2) := by decide +kernel
theorem dX10_reads_231 : decode cX10_reads 231 = .ok (.isub, 1) := by decide +kernel
theorem dX10_reads_232 : decode cX10_reads 232 = .ok (.istore 7, 2) := by decide +kernel
theorem dX10_reads_234 : decode cX10_reads 234 = .ok (.iload_n 3, 1) := by decide +kernel
theorem dX10_reads_235 : decode cX10_reads 235 = .ok (.iload 7, 2) := by decide +kernel
theorem dX10_reads_237 : decode cX10_reads 237 = .ok (.iload 6, 2) := by decide +kernel
theorem dX10_reads_239 : decode cX10_reads 239 = .ok (.imul, 1) := by decide +kernel
theorem dX10_reads_240 : decode cX10_reads 240 = .ok (.iadd, 1) := by decide +kernel
theorem dX10_reads_241 : decode cX10_reads 241 = .ok (.bipush 40, 2) := by decide +kernel
theorem dX10_reads_243 : decode cX10_reads 243 = .ok (.if_icmp .le 5, 3) := by decide +kernel
theorem dX10_reads_246 : decode cX10_reads 246 = .ok (.iload_n 2, 1) := by decide +kernel
theorem dX10_reads_247 : decode cX10_reads 247 = .ok (.ireturn, 1) := by decide +kernel
theorem dX10_reads_248 : decode cX10_reads 248 = .ok (.iconst 0, 1) := by decide +kernel
theorem dX10_reads_249 : decode cX10_reads 249 = .ok (.istore 8, 2) := by decide +kernel
theorem dX10_reads_251 : decode cX10_reads 251 = .ok (.iload 8, 2) := by decide +kernel
theorem dX10_reads_253 : decode cX10_reads 253 = .ok (.iload 7, 2) := by decide +kernel
theorem dX10_reads_255 : decode cX10_reads 255 = .ok (.iconst 1, 1) := by decide +kernel
theorem dX10_reads_256 : decode cX10_reads 256 = .ok (.isub, 1) := by decide +kernel
theorem dX10_reads_257 : decode cX10_reads 257 = .ok (.iload 6, 2) := by decide +kernel
theorem dX10_reads_259 : decode cX10_reads 259 = .ok (.imul, 1) := by decide +kernel
theorem dX10_reads_260 : decode cX10_reads 260 = .ok (.if_icmp .ge 48, 3) := by decide +kernel
theorem dX10_reads_263 : decode cX10_reads 263 = .ok (.aload_n 0, 1) := by decide +kernel
theorem dX10_reads_264 : decode cX10_reads 264 = .ok (.getfield 7, 3) := by decide +kernel
theorem dX10_reads_267 : decode cX10_reads 267 = .ok (.iload_n 1, 1) := by decide +kernel
theorem dX10_reads_268 : decode cX10_reads 268 = .ok (.dup2, 1) := by decide +kernel
theorem dX10_reads_269 : decode cX10_reads 269 = .ok (.iaload, 1) := by decide +kernel
theorem dX10_reads_270 : decode cX10_reads 270 = .ok (.iconst 1, 1) := by decide +kernel
theorem dX10_reads_271 : decode cX10_reads 271 = .ok (.iadd, 1) := by decide +kernel
theorem dX10_reads_272 : decode cX10_reads 272 = .ok (.iastore, 1) := by decide +kernel
theorem dX10_reads_273 : decode cX10_reads 273 = .ok (.aload_n 0, 1) := by decide +kernel
theorem dX10_reads_274 : decode cX10_reads 274 = .ok (.getfield 7, 3) := by decide +kernel
theorem dX10_reads_277 : decode cX10_reads 277 = .ok (.iload_n 1, 1) := by decide +kernel
theorem dX10_reads_278 : decode cX10_reads 278 = .ok (.aload_n 0, 1) := by decide +kernel
theorem dX10_reads_279 : decode cX10_reads 279 = .ok (.getfield 7, 3) := by decide +kernel
theorem dX10_reads_282 : decode cX10_reads 282 = .ok (.iload_n 1, 1) := by decide +kernel
theorem dX10_reads_283 : decode cX10_reads 283 = .ok (.iaload, 1) := by decide +kernel
theorem dX10_reads_284 : decode cX10_reads 284 = .ok (.iadd, 1) := by decide +kernel
theorem dX10_reads_285 : decode cX10_reads 285 = .ok (.aload_n 0, 1) := by decide +kernel
theorem dX10_reads_286 : decode cX10_reads 286 = .ok (.getfield 7, 3) := by decide +kernel
theorem dX10_reads_289 : decode cX10_reads 289 = .ok (.iload_n 1, 1) := by decide +kernel
theorem dX10_reads_290 : decode cX10_reads 290 = .ok (.aload_n 0, 1) := by decide +kernel
theorem dX10_reads_291 : decode cX10_reads 291 = .ok (.getfield 7, 3) := by decide +kernel
theorem dX10_reads_294 : decode cX10_reads 294 = .ok (.iload_n 1, 1) := by decide +kernel
theorem dX10_reads_295 : decode cX10_reads 295 = .ok (.iaload, 1) := by decide +kernel
theorem dX10_reads_296 : decode cX10_reads 296 = .ok (.iadd, 1) := by decide +kernel
theorem dX10_reads_297 : decode cX10_reads 297 = .ok (.iload 6, 2) := by decide +kernel
theorem dX10_reads_299 : decode cX10_reads 299 = .ok (.isub, 1) := by decide +kernel
theorem dX10_reads_300 : decode cX10_reads 300 = .ok (.iaload, 1) := by decide +kernel
theorem dX10_reads_301 : decode cX10_reads 301 = .ok (.iastore, 1) := by decide +kernel
theorem dX10_reads_302 : decode cX10_reads 302 = .ok (.iinc 8 1, 3) := by decide +kernel
theorem dX10_reads_305 : decode cX10_reads 305 = .ok (.goto (-54), 3) := by decide +kernel
theorem dX10_reads_308 : decode cX10_reads 308 = .ok (.iinc 2 1, 3) := by decide +kernel
theorem dX10_reads_311 : decode cX10_reads 311 = .ok (.goto (-298), 3) := by decide +kernel
theorem dX10_reads_314 : decode cX10_reads 314 = .ok (.iconst (-1), 1) := by decide +kernel
theorem dX10_reads_315 : decode cX10_reads 315 = .ok (.ireturn, 1) := by decide +kernel
set_option maxRecDepth 20000 in
theorem ggX10_load_X10_reads : GoodIn wsX10_load wsX10_reads := goodIn_r _ [6, 1, 7, 8, 9, 10, 11, 5, 12, 13, 14, 15, 25, 26, 27, 28, 29, 30] (by decide +kernel) (by decide +kernel)
set_option maxRecDepth 20000 in
theorem gX10_load_X10_reads : GoodIn wsX10_load (wsV RX10 94 RX10 yX10_reads wsX10_reads) := goodIn_app (goodIn_of _ (by decide +kernel)) ggX10_load_X10_reads
set_option maxRecDepth 20000 in
theorem ggX10_load_X10_records : GoodIn wsX10_load wsX10_records := goodIn_r _ [19, 20, 21, 22, 23, 5, 24, 1, 25, 26, 27, 28, 29, 30] (by decide +kernel) (by decide +kernel)
set_option maxRecDepth 20000 in
theorem gX10_load_X10_records : GoodIn wsX10_load (wsV RX10 74 RX10 yX10_records wsX10_records) := goodIn_app (goodIn_of _ (by decide +kernel)) ggX10_load_X10_records
set_option maxRecDepth 20000 in
theorem ggX10_load_X10_copies : GoodIn wsX10_load wsX10_copies := goodIn_r _ [24, 1, 25, 26, 27, 28, 29, 30] (by decide +kernel) (by decide +kernel)
set_option maxRecDepth 20000 in
theorem gX10_load_X10_copies : GoodIn wsX10_load (wsV RX10 24 RX10 yX10_copies wsX10_copies) := goodIn_app (goodIn_of _ (by decide +kernel)) ggX10_load_X10_copies
theorem dX10_load_0 : decode cX10_load 0 = .ok (.aload_n 0, 1) := by decide +kernel
theorem dX10_load_1 : decode cX10_load 1 = .ok (.invokevirtual 94, 3) := by decide +kernel
theorem dX10_load_4 : decode cX10_load 4 = .ok (.istore_n 1, 1) := by decide +kernel
theorem dX10_load_5 : decode cX10_load 5 = .ok (.iload_n 1, 1) := by decide +kernel
theorem dX10_load_6 : decode cX10_load 6 = .ok (.ifCond .lt 8, 3) := by decide +kernel
theorem dX10_load_9 : decode cX10_load 9 = .ok (.bipush (-100), 2) := by decide +kernel
theorem dX10_load_11 : decode cX10_load 11 = .ok (.iload_n 1, 1) := by decide +kernel
