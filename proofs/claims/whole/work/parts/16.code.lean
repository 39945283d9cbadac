theorem dX9_value_49 : decode cX9_value 49 = .ok (.ireturn, 1) := by decide +kernel
set_option maxRecDepth 20000 in
theorem ggX9_best_X9_isOver : GoodIn wsX9_best wsX9_isOver := goodIn_r _ [6, 7, 8, 9, 5, 10, 11, 12, 13, 14, 15, 16, 17, 18, 19, 20, 21, 22, 23, 24, 25, 26, 27, 28, 29, 30, 31, 32, 33, 34, 35, 36, 37, 38, 39, 40, 89, 90, 91, 92, 93, 94, 95, 96, 97, 98, 99, 100, 101, 102, 103, 104] (by decide +kernel) (by decide +kernel)
set_option maxRecDepth 20000 in
theorem gX9_best_X9_isOver : GoodIn wsX9_best (wsV RX9 112 RX9 yX9_isOver wsX9_isOver) := goodIn_app (goodIn_of _ (by decide +kernel)) ggX9_best_X9_isOver
set_option maxRecDepth 20000 in
theorem ggX9_best_X9_reckonsAll : GoodIn wsX9_best wsX9_reckonsAll := goodIn_r _ [44, 45, 46, 47, 5, 48, 38, 39, 40, 16, 17, 18, 19, 20, 21, 22, 11, 49, 50, 51, 52, 35, 36, 37, 53, 54, 55, 56, 57, 58, 27, 28, 29, 30, 31, 32, 33, 34, 59, 60, 61, 62, 63, 64, 65, 66, 67, 68, 69, 70, 71, 72, 73, 74, 75, 76, 77, 78, 79, 80, 89, 90, 91, 92, 93, 94, 95, 96, 97, 98, 99, 100, 101, 102, 103, 104] (by decide +kernel) (by decide +kernel)
set_option maxRecDepth 20000 in
theorem gX9_best_X9_reckonsAll : GoodIn wsX9_best (wsV RX9 155 RX9 yX9_reckonsAll wsX9_reckonsAll) := goodIn_app (goodIn_of _ (by decide +kernel)) ggX9_best_X9_reckonsAll
set_option maxRecDepth 20000 in
theorem ggX9_best_X9_bestMove : GoodIn wsX9_best wsX9_bestMove := goodIn_r _ [84, 7, 8, 9, 5, 10, 11, 12, 13, 14, 15, 16, 17, 18, 19, 20, 21, 22, 23, 24, 25, 26, 27, 28, 29, 30, 31, 32, 33, 34, 35, 36, 37, 38, 39, 40, 85, 86, 87, 88, 59, 60, 61, 62, 57, 63, 64, 65, 66, 67, 68, 69, 70, 71, 72, 73, 74, 75, 76, 89, 90, 91, 92, 93, 94, 95, 96, 97, 98, 99, 100, 101, 102, 103, 104] (by decide +kernel) (by decide +kernel)
set_option maxRecDepth 20000 in
theorem gX9_best_X9_bestMove : GoodIn wsX9_best (wsV RX9 158 RX9 yX9_bestMove wsX9_bestMove) := goodIn_app (goodIn_of _ (by decide +kernel)) ggX9_best_X9_bestMove
theorem dX9_best_0 : decode cX9_best 0 = .ok (.aload_n 0, 1) := by decide +kernel
theorem dX9_best_1 : decode cX9_best 1 = .ok (.iconst 0, 1) := by decide +kernel
theorem dX9_best_2 : decode cX9_best 2 = .ok (.putfield 41, 3) := by decide +kernel
theorem dX9_best_5 : decode cX9_best 5 = .ok (.aload_n 0, 1) := by decide +kernel
theorem dX9_best_6 : decode cX9_best 6 = .ok (.invokevirtual 112, 3) := by decide +kernel
theorem dX9_best_9 : decode cX9_best 9 = .ok (.ifCond .eq 6, 3) := by decide +kernel
theorem dX9_best_12 : decode cX9_best 12 = .ok (.bipush (-5), 2) := by decide +kernel
theorem dX9_best_14 : decode cX9_best 14 = .ok (.ireturn, 1) := by decide +kernel
theorem dX9_best_15 : decode cX9_best 15 = .ok (.aload_n 0, 1) := by decide +kernel
theorem dX9_best_16 : decode cX9_best 16 = .ok (.invokevirtual 155, 3) := by decide +kernel
theorem dX9_best_19 : decode cX9_best 19 = .ok (.aload_n 0, 1) := by decide +kernel
theorem dX9_best_20 : decode cX9_best 20 = .ok (.invokevirtual 158, 3) := by decide +kernel
theorem dX9_best_23 : decode cX9_best 23 = .ok (.ireturn, 1) := by decide +kernel
set_option maxRecDepth 20000 in
theorem ggX9_grundy_X9_in : GoodIn wsX9_grundy wsX9_in := goodIn_r _ [5] (by decide +kernel) (by decide +kernel)
set_option maxRecDepth 20000 in
theorem gX9_grundy_X9_in : GoodIn wsX9_grundy (va_wsS RX9 45 yX9_in wsX9_in) := goodIn_app (goodIn_of _ (by decide +kernel)) ggX9_grundy_X9_in
set_option maxRecDepth 20000 in
theorem ggX9_grundy_X9_grundyOf : GoodIn wsX9_grundy wsX9_grundyOf := goodIn_r _ [9, 10, 11, 12, 13, 4, 14, 15, 16, 17, 18, 19, 2, 3, 5, 20, 21, 22, 23, 24, 25, 26, 27, 28, 29, 30, 31, 32, 33, 34, 35] (by decide +kernel) (by decide +kernel)
set_option maxRecDepth 20000 in
theorem gX9_grundy_X9_grundyOf : GoodIn wsX9_grundy (wsV RX9 167 RX9 yX9_grundyOf wsX9_grundyOf) := goodIn_app (goodIn_of _ (by decide +kernel)) ggX9_grundy_X9_grundyOf
theorem dX9_grundy_0 : decode cX9_grundy 0 = .ok (.aload_n 0, 1) := by decide +kernel
theorem dX9_grundy_1 : decode cX9_grundy 1 = .ok (.iconst 0, 1) := by decide +kernel
theorem dX9_grundy_2 : decode cX9_grundy 2 = .ok (.putfield 41, 3) := by decide +kernel
theorem dX9_grundy_5 : decode cX9_grundy 5 = .ok (.iload_n 1, 1) := by decide +kernel
theorem dX9_grundy_6 : decode cX9_grundy 6 = .ok (.iconst 0, 1) := by decide +kernel
theorem dX9_grundy_7 : decode cX9_grundy 7 = .ok (.sipush 200, 3) := by decide +kernel
theorem dX9_grundy_10 : decode cX9_grundy 10 = .ok (.invokestatic 45, 3) := by decide +kernel
theorem dX9_grundy_13 : decode cX9_grundy 13 = .ok (.ifCond .eq 11, 3) := by decide +kernel
theorem dX9_grundy_16 : decode cX9_grundy 16 = .ok (.aload_n 0, 1) := by decide +kernel
theorem dX9_grundy_17 : decode cX9_grundy 17 = .ok (.iload_n 1, 1) := by decide +kernel
theorem dX9_grundy_18 : decode cX9_grundy 18 = .ok (.invokevirtual 167, 3) := by decide +kernel
theorem dX9_grundy_21 : decode cX9_grundy 21 = .ok (.goto 5, 3) := by decide +kernel
theorem dX9_grundy_24 : decode cX9_grundy 24 = .ok (.bipush (-2), 2) := by decide +kernel
theorem dX9_grundy_26 : decode cX9_grundy 26 = .ok (.ireturn, 1) := by decide +kernel
theorem dX9_firstSize_0 : decode cX9_firstSize 0 = .ok (.sipush 200, 3) := by decide +kernel
theorem dX9_firstSize_3 : decode cX9_firstSize 3 = .ok (.iload_n 1, 1) := by decide +kernel
theorem dX9_firstSize_4 : decode cX9_firstSize 4 = .ok (.isub, 1) := by decide +kernel
theorem dX9_firstSize_5 : decode cX9_firstSize 5 = .ok (.iconst 1, 1) := by decide +kernel
theorem dX9_firstSize_6 : decode cX9_firstSize 6 = .ok (.iadd, 1) := by decide +kernel
theorem dX9_firstSize_7 : decode cX9_firstSize 7 = .ok (.istore_n 2, 1) := by decide +kernel
theorem dX9_firstSize_8 : decode cX9_firstSize 8 = .ok (.iload_n 2, 1) := by decide +kernel
theorem dX9_firstSize_9 : decode cX9_firstSize 9 = .ok (.ifCond .le 30, 3) := by decide +kernel
theorem dX9_firstSize_12 : decode cX9_firstSize 12 = .ok (.aload_n 0, 1) := by decide +kernel
theorem dX9_firstSize_13 : decode cX9_firstSize 13 = .ok (.getfield 35, 3) := by decide +kernel
theorem dX9_firstSize_16 : decode cX9_firstSize 16 = .ok (.iload_n 2, 1) := by decide +kernel
theorem dX9_firstSize_17 : decode cX9_firstSize 17 = .ok (.iconst 1, 1) := by decide +kernel
theorem dX9_firstSize_18 : decode cX9_firstSize 18 = .ok (.isub, 1) := by decide +kernel
theorem dX9_firstSize_19 : decode cX9_firstSize 19 = .ok (.iaload, 1) := by decide +kernel
theorem dX9_firstSize_20 : decode cX9_firstSize 20 = .ok (.aload_n 0, 1) := by decide +kernel
theorem dX9_firstSize_21 : decode cX9_firstSize 21 = .ok (.getfield 35, 3) := by decide +kernel
theorem dX9_firstSize_24 : decode cX9_firstSize 24 = .ok (.iload_n 2, 1) := by decide +kernel
theorem dX9_firstSize_25 : decode cX9_firstSize 25 = .ok (.iconst 1, 1) := by decide +kernel
theorem dX9_firstSize_26 : decode cX9_firstSize 26 = .ok (.isub, 1) := by decide +kernel
theorem dX9_firstSize_27 : decode cX9_firstSize 27 = .ok (.iload_n 1, 1) := by decide +kernel
theorem dX9_firstSize_28 : decode cX9_firstSize 28 = .ok (.iadd, 1) := by decide +kernel
theorem dX9_firstSize_29 : decode cX9_firstSize 29 = .ok (.iaload, 1) := by decide +kernel
theorem dX9_firstSize_30 : decode cX9_firstSize 30 = .ok (.if_icmp .ne 9, 3) := by decide +kernel
theorem dX9_firstSize_33 : decode cX9_firstSize 33 = .ok (.iinc 2 (-1), 3) := by decide +kernel
theorem dX9_firstSize_36 : decode cX9_firstSize 36 = .ok (.goto (-28), 3) := by decide +kernel
theorem dX9_firstSize_39 : decode cX9_firstSize 39 = .ok (.iload_n 2, 1) := by decide +kernel
theorem dX9_firstSize_40 : decode cX9_firstSize 40 = .ok (.ireturn, 1) := by decide +kernel
set_option maxRecDepth 20000 in
theorem ggX9_period_X9_in : GoodIn wsX9_period wsX9_in := goodIn_r _ [5] (by decide +kernel) (by decide +kernel)
set_option maxRecDepth 20000 in
theorem gX9_period_X9_in : GoodIn wsX9_period (va_wsS RX9 45 yX9_in wsX9_in) := goodIn_app (goodIn_of _ (by decide +kernel)) ggX9_period_X9_in
set_option maxRecDepth 20000 in
theorem ggX9_period_X9_laysGrundies : GoodIn wsX9_period wsX9_laysGrundies := goodIn_r _ [9, 10, 11, 12, 13, 4, 14, 15, 2, 3, 5, 20, 21, 22, 23, 24, 25, 26, 27, 28, 29, 30, 31, 32, 33, 34, 35] (by decide +kernel) (by decide +kernel)
set_option maxRecDepth 20000 in
theorem gX9_period_X9_laysGrundies : GoodIn wsX9_period (wsV RX9 164 RX9 yX9_laysGrundies wsX9_laysGrundies) := goodIn_app (goodIn_of _ (by decide +kernel)) ggX9_period_X9_laysGrundies
set_option maxRecDepth 20000 in
theorem ggX9_period_X9_firstSize : GoodIn wsX9_period wsX9_firstSize := goodIn_r _ [19, 10, 20, 21, 22, 23, 24, 25, 26, 27, 28, 29, 30, 31, 32, 33, 34, 35] (by decide +kernel) (by decide +kernel)
set_option maxRecDepth 20000 in
theorem gX9_period_X9_firstSize : GoodIn wsX9_period (wsV RX9 179 RX9 yX9_firstSize wsX9_firstSize) := goodIn_app (goodIn_of _ (by decide +kernel)) ggX9_period_X9_firstSize
theorem dX9_period_0 : decode cX9_period 0 = .ok (.aload_n 0, 1) := by decide +kernel
theorem dX9_period_1 : decode cX9_period 1 = .ok (.iconst 0, 1) := by decide +kernel
theorem dX9_period_2 : decode cX9_period 2 = .ok (.putfield 41, 3) := by decide +kernel
theorem dX9_period_5 : decode cX9_period 5 = .ok (.iload_n 1, 1) := by decide +kernel
theorem dX9_period_6 : decode cX9_period 6 = .ok (.iconst 0, 1) := by decide +kernel
theorem dX9_period_7 : decode cX9_period 7 = .ok (.iconst 1, 1) := by decide +kernel
theorem dX9_period_8 : decode cX9_period 8 = .ok (.invokestatic 45, 3) := by decide +kernel
theorem dX9_period_11 : decode cX9_period 11 = .ok (.ifCond .ne 6, 3) := by decide +kernel
theorem dX9_period_14 : decode cX9_period 14 = .ok (.bipush (-2), 2) := by decide +kernel
theorem dX9_period_16 : decode cX9_period 16 = .ok (.ireturn, 1) := by decide +kernel
theorem dX9_period_17 : decode cX9_period 17 = .ok (.aload_n 0, 1) := by decide +kernel
theorem dX9_period_18 : decode cX9_period 18 = .ok (.invokevirtual 164, 3) := by decide +kernel
theorem dX9_period_21 : decode cX9_period 21 = .ok (.iconst 1, 1) := by decide +kernel
theorem dX9_period_22 : decode cX9_period 22 = .ok (.istore_n 2, 1) := by decide +kernel
theorem dX9_period_23 : decode cX9_period 23 = .ok (.iload_n 2, 1) := by decide +kernel
theorem dX9_period_24 : decode cX9_period 24 = .ok (.bipush 100, 2) := by decide +kernel
theorem dX9_period_26 : decode cX9_period 26 = .ok (.if_icmp .gt 33, 3) := by decide +kernel
theorem dX9_period_29 : decode cX9_period 29 = .ok (.aload_n 0, 1) := by decide +kernel
theorem dX9_period_30 : decode cX9_period 30 = .ok (.iload_n 2, 1) := by decide +kernel
theorem dX9_period_31 : decode cX9_period 31 = .ok (.invokevirtual 179, 3) := by decide +kernel
theorem dX9_period_34 : decode cX9_period 34 = .ok (.istore_n 3, 1) := by decide +kernel
theorem dX9_period_35 : decode cX9_period 35 = .ok (.iload_n 3, 1) := by decide +kernel
theorem dX9_period_36 : decode cX9_period 36 = .ok (.iload_n 2, 1) := by decide +kernel
theorem dX9_period_37 : decode cX9_period 37 = .ok (.iadd, 1) := by decide +kernel
theorem dX9_period_38 : decode cX9_period 38 = .ok (.bipush 100, 2) := by decide +kernel
theorem dX9_period_40 : decode cX9_period 40 = .ok (.if_icmp .gt 13, 3) := by decide +kernel
theorem dX9_period_43 : decode cX9_period 43 = .ok (.iload_n 1, 1) := by decide +kernel
theorem dX9_period_44 : decode cX9_period 44 = .ok (.ifCond .ne 7, 3) := by decide +kernel
theorem dX9_period_47 : decode cX9_period 47 = .ok (.iload_n 2, 1) := by decide +kernel
theorem dX9_period_48 : decode cX9_period 48 = .ok (.goto 4, 3) := by decide +kernel
theorem dX9_period_51 : decode cX9_period 51 = .ok (.iload_n 3, 1) := by decide +kernel
theorem dX9_period_52 : decode cX9_period 52 = .ok (.ireturn, 1) := by decide +kernel
theorem dX9_period_53 : decode cX9_period 53 = .ok (.iinc 2 1, 3) := by decide +kernel
theorem dX9_period_56 : decode cX9_period 56 = .ok (.goto (-33), 3) := by decide +kernel
theorem dX9_period_59 : decode cX9_period 59 = .ok (.bipush (-6), 2) := by decide +kernel
theorem dX9_period_61 : decode cX9_period 61 = .ok (.ireturn, 1) := by decide +kernel
theorem dX9_moveAt_0 : decode cX9_moveAt 0 = .ok (.iload_n 1, 1) := by decide +kernel
theorem dX9_moveAt_1 : decode cX9_moveAt 1 = .ok (.istore_n 2, 1) := by decide +kernel
theorem dX9_moveAt_2 : decode cX9_moveAt 2 = .ok (.iconst 0, 1) := by decide +kernel
theorem dX9_moveAt_3 : decode cX9_moveAt 3 = .ok (.istore_n 3, 1) := by decide +kernel
theorem dX9_moveAt_4 : decode cX9_moveAt 4 = .ok (.iload_n 2, 1) := by decide +kernel
theorem dX9_moveAt_5 : decode cX9_moveAt 5 = .ok (.ifCond .gt 11, 3) := by decide +kernel
theorem dX9_moveAt_8 : decode cX9_moveAt 8 = .ok (.iload_n 0, 1) := by decide +kernel
theorem dX9_moveAt_9 : decode cX9_moveAt 9 = .ok (.iload_n 3, 1) := by decide +kernel
theorem dX9_moveAt_10 : decode cX9_moveAt 10 = .ok (.ishr, 1) := by decide +kernel
theorem dX9_moveAt_11 : decode cX9_moveAt 11 = .ok (.iconst 1, 1) := by decide +kernel
theorem dX9_moveAt_12 : decode cX9_moveAt 12 = .ok (.iand, 1) := by decide +kernel
theorem dX9_moveAt_13 : decode cX9_moveAt 13 = .ok (.ifCond .ne 17, 3) := by decide +kernel
theorem dX9_moveAt_16 : decode cX9_moveAt 16 = .ok (.iload_n 2, 1) := by decide +kernel
theorem dX9_moveAt_17 : decode cX9_moveAt 17 = .ok (.iload_n 0, 1) := by decide +kernel
theorem dX9_moveAt_18 : decode cX9_moveAt 18 = .ok (.iload_n 3, 1) := by decide +kernel
theorem dX9_moveAt_19 : decode cX9_moveAt 19 = .ok (.ishr, 1) := by decide +kernel
theorem dX9_moveAt_20 : decode cX9_moveAt 20 = .ok (.iconst 1, 1) := by decide +kernel
theorem dX9_moveAt_21 : decode cX9_moveAt 21 = .ok (.iand, 1) := by decide +kernel
theorem dX9_moveAt_22 : decode cX9_moveAt 22 = .ok (.isub, 1) := by decide +kernel
theorem dX9_moveAt_23 : decode cX9_moveAt 23 = .ok (.istore_n 2, 1) := by decide +kernel
theorem dX9_moveAt_24 : decode cX9_moveAt 24 = .ok (.iinc 3 1, 3) := by decide +kernel
theorem dX9_moveAt_27 : decode cX9_moveAt 27 = .ok (.goto (-23), 3) := by decide +kernel
theorem dX9_moveAt_30 : decode cX9_moveAt 30 = .ok (.iload_n 3, 1) := by decide +kernel
theorem dX9_moveAt_31 : decode cX9_moveAt 31 = .ok (.ireturn, 1) := by decide +kernel
theorem dX9_ones_0 : decode cX9_ones 0 = .ok (.iconst 0, 1) := by decide +kernel
theorem dX9_ones_1 : decode cX9_ones 1 = .ok (.istore_n 1, 1) := by decide +kernel
theorem dX9_ones_2 : decode cX9_ones 2 = .ok (.iconst 0, 1) := by decide +kernel
theorem dX9_ones_3 : decode cX9_ones 3 = .ok (.istore_n 2, 1) := by decide +kernel
theorem dX9_ones_4 : decode cX9_ones 4 = .ok (.iload_n 2, 1) := by decide +kernel
theorem dX9_ones_5 : decode cX9_ones 5 = .ok (.bipush 21, 2) := by decide +kernel
theorem dX9_ones_7 : decode cX9_ones 7 = .ok (.if_icmp .ge 17, 3) := by decide +kernel
theorem dX9_ones_10 : decode cX9_ones 10 = .ok (.iload_n 1, 1) := by decide +kernel
theorem dX9_ones_11 : decode cX9_ones 11 = .ok (.iload_n 0, 1) := by decide +kernel
theorem dX9_ones_12 : decode cX9_ones 12 = .ok (.iload_n 2, 1) := by decide +kernel
theorem dX9_ones_13 : decode cX9_ones 13 = .ok (.ishr, 1) := by decide +kernel
theorem dX9_ones_14 : decode cX9_ones 14 = .ok (.iconst 1, 1) := by decide +kernel
theorem dX9_ones_15 : decode cX9_ones 15 = .ok (.iand, 1) := by decide +kernel
theorem dX9_ones_16 : decode cX9_ones 16 = .ok (.iadd, 1) := by decide +kernel
theorem dX9_ones_17 : decode cX9_ones 17 = .ok (.istore_n 1, 1) := by decide +kernel
theorem dX9_ones_18 : decode cX9_ones 18 = .ok (.iinc 2 1, 3) := by decide +kernel
theorem dX9_ones_21 : decode cX9_ones 21 = .ok (.goto (-17), 3) := by decide +kernel
theorem dX9_ones_24 : decode cX9_ones 24 = .ok (.iload_n 1, 1) := by decide +kernel
theorem dX9_ones_25 : decode cX9_ones 25 = .ok (.ireturn, 1) := by decide +kernel
set_option maxRecDepth 20000 in
theorem ggX9_drawn_X9_in : GoodIn wsX9_drawn wsX9_in := goodIn_r _ [9] (by decide +kernel) (by decide +kernel)
set_option maxRecDepth 20000 in
theorem gX9_drawn_X9_in : GoodIn wsX9_drawn (va_wsS RX9 45 yX9_in wsX9_in) := goodIn_app (goodIn_of _ (by decide +kernel)) ggX9_drawn_X9_in
set_option maxRecDepth 20000 in
theorem ggX9_drawn_X9_isOver : GoodIn wsX9_drawn wsX9_isOver := goodIn_r _ [13, 14, 15, 16, 8, 17, 4, 18, 19, 20, 21, 22, 23, 24, 25, 26, 27, 28, 29, 30, 31, 32, 33, 34, 35, 36, 37, 38, 39, 40, 6, 7, 9, 41, 42, 43, 82, 83, 84, 85, 86, 87, 88, 89, 90, 91, 92, 93, 94, 95, 96, 97] (by decide +kernel) (by decide +kernel)
set_option maxRecDepth 20000 in
theorem gX9_drawn_X9_isOver : GoodIn wsX9_drawn (wsV RX9 112 RX9 yX9_isOver wsX9_isOver) := goodIn_app (goodIn_of _ (by decide +kernel)) ggX9_drawn_X9_isOver
set_option maxRecDepth 20000 in
theorem ggX9_drawn_X9_movesNow : GoodIn wsX9_drawn wsX9_movesNow := goodIn_r _ [17, 4, 18, 19, 20, 8, 21, 22, 23, 24, 25, 26, 27, 28, 29, 30, 31, 32, 33, 34, 35, 36, 37, 38, 39, 40, 6, 7, 9, 41, 42, 43, 82, 83, 84, 85, 86, 87, 88, 89, 90, 91, 92, 93, 94, 95, 96, 97] (by decide +kernel) (by decide +kernel)
set_option maxRecDepth 20000 in
theorem gX9_drawn_X9_movesNow : GoodIn wsX9_drawn (wsV RX9 109 RX9 yX9_movesNow wsX9_movesNow) := goodIn_app (goodIn_of _ (by decide +kernel)) ggX9_drawn_X9_movesNow
set_option maxRecDepth 20000 in
theorem ggX9_drawn_X9_ones : GoodIn wsX9_drawn wsX9_ones := goodIn_r _ [46] (by decide +kernel) (by decide +kernel)
set_option maxRecDepth 20000 in
theorem gX9_drawn_X9_ones : GoodIn wsX9_drawn (va_wsS RX9 184 yX9_ones wsX9_ones) := goodIn_app (goodIn_of _ (by decide +kernel)) ggX9_drawn_X9_ones
set_option maxRecDepth 20000 in
theorem ggX9_drawn_X9_moveAt : GoodIn wsX9_drawn wsX9_moveAt := goodIn_r _ [49] (by decide +kernel) (by decide +kernel)
set_option maxRecDepth 20000 in
theorem gX9_drawn_X9_moveAt : GoodIn wsX9_drawn (va_wsS RX9 187 yX9_moveAt wsX9_moveAt) := goodIn_app (goodIn_of _ (by decide +kernel)) ggX9_drawn_X9_moveAt
set_option maxRecDepth 20000 in
theorem ggX9_drawn_X9_does : GoodIn wsX9_drawn wsX9_does := goodIn_r _ [53, 4, 54, 55, 56, 8, 57, 25, 26, 27, 28, 18, 19, 20, 21, 22, 23, 24, 58, 59, 60, 61, 41, 42, 43, 62, 63, 64, 65, 82, 83, 84, 85, 86, 87, 88, 89, 90, 91, 92, 93, 94, 95, 96, 97] (by decide +kernel) (by decide +kernel)
set_option maxRecDepth 20000 in
theorem gX9_drawn_X9_does : GoodIn wsX9_drawn (wsV RX9 149 RX9 yX9_does wsX9_does) := goodIn_app (goodIn_of _ (by decide +kernel)) ggX9_drawn_X9_does
set_option maxRecDepth 20000 in
theorem ggX9_drawn_X9_winner : GoodIn wsX9_drawn wsX9_winner := goodIn_r _ [69, 4, 10, 11, 12, 8, 13, 14, 15, 16, 17, 18, 19, 20, 21, 22, 23, 24, 25, 26, 27, 28, 29, 30, 31, 32, 33, 34, 35, 36, 37, 38, 39, 40, 6, 7, 9, 41, 42, 43, 82, 83, 84, 85, 86, 87, 88, 89, 90, 91, 92, 93, 94, 95, 96, 97] (by decide +kernel) (by decide +kernel)
set_option maxRecDepth 20000 in
theorem gX9_drawn_X9_winner : GoodIn wsX9_drawn (wsV RX9 170 RX9 yX9_winner wsX9_winner) := goodIn_app (goodIn_of _ (by decide +kernel)) ggX9_drawn_X9_winner
set_option maxRecDepth 20000 in
theorem ggX9_drawn_Jxf58ca_floatToIntBits_5c35a : GoodIn wsX9_drawn wsJxf58ca_floatToIntBits_5c35a := goodIn_r _ [73, 74, 75, 76, 77, 78, 79, 80, 72, 81] (by decide +kernel) (by decide +kernel)
set_option maxRecDepth 20000 in
theorem gX9_drawn_Jxf58ca_floatToIntBits_5c35a : GoodIn wsX9_drawn (va_wsS RX9 190 yJxf58ca_floatToIntBits_5c35a wsJxf58ca_floatToIntBits_5c35a) := goodIn_app (goodIn_of _ (by decide +kernel)) ggX9_drawn_Jxf58ca_floatToIntBits_5c35a
theorem dX9_drawn_0 : decode cX9_drawn 0 = .ok (.aload_n 0, 1) := by decide +kernel
theorem dX9_drawn_1 : decode cX9_drawn 1 = .ok (.iconst 0, 1) := by decide +kernel
theorem dX9_drawn_2 : decode cX9_drawn 2 = .ok (.putfield 41, 3) := by decide +kernel
theorem dX9_drawn_5 : decode cX9_drawn 5 = .ok (.iload_n 1, 1) := by decide +kernel
theorem dX9_drawn_6 : decode cX9_drawn 6 = .ok (.iconst 1, 1) := by decide +kernel
theorem dX9_drawn_7 : decode cX9_drawn 7 = .ok (.sipush 200, 3) := by decide +kernel
theorem dX9_drawn_10 : decode cX9_drawn 10 = .ok (.invokestatic 45, 3) := by decide +kernel
theorem dX9_drawn_13 : decode cX9_drawn 13 = .ok (.ifCond .eq 13, 3) := by decide +kernel
theorem dX9_drawn_16 : decode cX9_drawn 16 = .ok (.iload_n 2, 1) := by decide +kernel
theorem dX9_drawn_17 : decode cX9_drawn 17 = .ok (.iconst 0, 1) := by decide +kernel
theorem dX9_drawn_18 : decode cX9_drawn 18 = .ok (.ldc 182, 2) := by decide +kernel
theorem dX9_drawn_20 : decode cX9_drawn 20 = .ok (.invokestatic 45, 3) := by decide +kernel
theorem dX9_drawn_23 : decode cX9_drawn 23 = .ok (.ifCond .ne 6, 3) := by decide +kernel
theorem dX9_drawn_26 : decode cX9_drawn 26 = .ok (.bipush (-2), 2) := by decide +kernel
theorem dX9_drawn_28 : decode cX9_drawn 28 = .ok (.ireturn, 1) := by decide +kernel
theorem dX9_drawn_29 : decode cX9_drawn 29 = .ok (.aload_n 0, 1) := by decide +kernel
theorem dX9_drawn_30 : decode cX9_drawn 30 = .ok (.invokevirtual 112, 3) := by decide +kernel
theorem dX9_drawn_33 : decode cX9_drawn 33 = .ok (.ifCond .eq 6, 3) := by decide +kernel
theorem dX9_drawn_36 : decode cX9_drawn 36 = .ok (.bipush (-5), 2) := by decide +kernel
theorem dX9_drawn_38 : decode cX9_drawn 38 = .ok (.ireturn, 1) := by decide +kernel
theorem dX9_drawn_39 : decode cX9_drawn 39 = .ok (.iconst 0, 1) := by decide +kernel
theorem dX9_drawn_40 : decode cX9_drawn 40 = .ok (.istore_n 3, 1) := by decide +kernel
theorem dX9_drawn_41 : decode cX9_drawn 41 = .ok (.iload_n 3, 1) := by decide +kernel
theorem dX9_drawn_42 : decode cX9_drawn 42 = .ok (.bipush 27, 2) := by decide +kernel
theorem dX9_drawn_44 : decode cX9_drawn 44 = .ok (.if_icmp .ge 21, 3) := by decide +kernel
theorem dX9_drawn_47 : decode cX9_drawn 47 = .ok (.aload_n 0, 1) := by decide +kernel
theorem dX9_drawn_48 : decode cX9_drawn 48 = .ok (.getfield 13, 3) := by decide +kernel
theorem dX9_drawn_51 : decode cX9_drawn 51 = .ok (.iload_n 3, 1) := by decide +kernel
theorem dX9_drawn_52 : decode cX9_drawn 52 = .ok (.aload_n 0, 1) := by decide +kernel
theorem dX9_drawn_53 : decode cX9_drawn 53 = .ok (.getfield 7, 3) := by decide +kernel
theorem dX9_drawn_56 : decode cX9_drawn 56 = .ok (.iload_n 3, 1) := by decide +kernel
theorem dX9_drawn_57 : decode cX9_drawn 57 = .ok (.iaload, 1) := by decide +kernel
theorem dX9_drawn_58 : decode cX9_drawn 58 = .ok (.iastore, 1) := by decide +kernel
theorem dX9_drawn_59 : decode cX9_drawn 59 = .ok (.iinc 3 1, 3) := by decide +kernel
theorem dX9_drawn_62 : decode cX9_drawn 62 = .ok (.goto (-21), 3) := by decide +kernel
theorem dX9_drawn_65 : decode cX9_drawn 65 = .ok (.iload_n 2, 1) := by decide +kernel
theorem dX9_drawn_66 : decode cX9_drawn 66 = .ok (.istore_n 3, 1) := by decide +kernel
theorem dX9_drawn_67 : decode cX9_drawn 67 = .ok (.iconst 0, 1) := by decide +kernel
theorem dX9_drawn_68 : decode cX9_drawn 68 = .ok (.istore 4, 2) := by decide +kernel
theorem dX9_drawn_70 : decode cX9_drawn 70 = .ok (.iconst 0, 1) := by decide +kernel
theorem dX9_drawn_71 : decode cX9_drawn 71 = .ok (.istore 5, 2) := by decide +kernel
theorem dX9_drawn_73 : decode cX9_drawn 73 = .ok (.iload 5, 2) := by decide +kernel
theorem dX9_drawn_75 : decode cX9_drawn 75 = .ok (.iload_n 1, 1) := by decide +kernel
theorem dX9_drawn_76 : decode cX9_drawn 76 = .ok (.if_icmp .ge 108, 3) := by decide +kernel
theorem dX9_drawn_79 : decode cX9_drawn 79 = .ok (.aload_n 0, 1) := by decide +kernel
theorem dX9_drawn_80 : decode cX9_drawn 80 = .ok (.invokevirtual 112, 3) := by decide +kernel
theorem dX9_drawn_83 : decode cX9_drawn 83 = .ok (.ifCond .ne 42, 3) := by decide +kernel
theorem dX9_drawn_86 : decode cX9_drawn 86 = .ok (.aload_n 0, 1) := by decide +kernel
theorem dX9_drawn_87 : decode cX9_drawn 87 = .ok (.invokevirtual 109, 3) := by decide +kernel
theorem dX9_drawn_90 : decode cX9_drawn 90 = .ok (.istore 6, 2) := by decide +kernel
theorem dX9_drawn_92 : decode cX9_drawn 92 = .ok (.bipush 75, 2) := by decide +kernel
theorem dX9_drawn_94 : decode cX9_drawn 94 = .ok (.iload_n 3, 1) := by decide +kernel
theorem dX9_drawn_95 : decode cX9_drawn 95 = .ok (.imul, 1) := by decide +kernel
theorem dX9_drawn_96 : decode cX9_drawn 96 = .ok (.bipush 74, 2) := by decide +kernel
theorem dX9_drawn_98 : decode cX9_drawn 98 = .ok (.iadd, 1) := by decide +kernel
theorem dX9_drawn_99 : decode cX9_drawn 99 = .ok (.ldc 183, 2) := by decide +kernel
theorem dX9_drawn_101 : decode cX9_drawn 101 = .ok (.irem, 1) := by decide +kernel
theorem dX9_drawn_102 : decode cX9_drawn 102 = .ok (.istore_n 3, 1) := by decide +kernel
theorem dX9_drawn_103 : decode cX9_drawn 103 = .ok (.aload_n 0, 1) := by decide +kernel
theorem dX9_drawn_104 : decode cX9_drawn 104 = .ok (.iload 6, 2) := by decide +kernel
theorem dX9_drawn_106 : decode cX9_drawn 106 = .ok (.iload_n 3, 1) := by decide +kernel
theorem dX9_drawn_107 : decode cX9_drawn 107 = .ok (.bipush 64, 2) := by decide +kernel
theorem dX9_drawn_109 : decode cX9_drawn 109 = .ok (.idiv, 1) := by decide +kernel
theorem dX9_drawn_110 : decode cX9_drawn 110 = .ok (.iload 6, 2) := by decide +kernel
theorem dX9_drawn_112 : decode cX9_drawn 112 = .ok (.invokestatic 184, 3) := by decide +kernel
theorem dX9_drawn_115 : decode cX9_drawn 115 = .ok (.irem, 1) := by decide +kernel
theorem dX9_drawn_116 : decode cX9_drawn 116 = .ok (.invokestatic 187, 3) := by decide +kernel
theorem dX9_drawn_119 : decode cX9_drawn 119 = .ok (.invokevirtual 149, 3) := by decide +kernel
theorem dX9_drawn_122 : decode cX9_drawn 122 = .ok (.goto (-43), 3) := by decide +kernel
theorem dX9_drawn_125 : decode cX9_drawn 125 = .ok (.iload 4, 2) := by decide +kernel
theorem dX9_drawn_127 : decode cX9_drawn 127 = .ok (.aload_n 0, 1) := by decide +kernel
theorem dX9_drawn_128 : decode cX9_drawn 128 = .ok (.invokevirtual 170, 3) := by decide +kernel
theorem dX9_drawn_131 : decode cX9_drawn 131 = .ok (.aload_n 0, 1) := by decide +kernel
theorem dX9_drawn_132 : decode cX9_drawn 132 = .ok (.getfield 13, 3) := by decide +kernel
theorem dX9_drawn_135 : decode cX9_drawn 135 = .ok (.iconst 3, 1) := by decide +kernel
theorem dX9_drawn_136 : decode cX9_drawn 136 = .ok (.iaload, 1) := by decide +kernel
theorem dX9_drawn_137 : decode cX9_drawn 137 = .ok (.if_icmp .ne 7, 3) := by decide +kernel
theorem dX9_drawn_140 : decode cX9_drawn 140 = .ok (.iconst 1, 1) := by decide +kernel
theorem dX9_drawn_141 : decode cX9_drawn 141 = .ok (.goto 4, 3) := by decide +kernel
theorem dX9_drawn_144 : decode cX9_drawn 144 = .ok (.iconst 0, 1) := by decide +kernel
theorem dX9_drawn_145 : decode cX9_drawn 145 = .ok (.iadd, 1) := by decide +kernel
theorem dX9_drawn_146 : decode cX9_drawn 146 = .ok (.istore 4, 2) := by decide +kernel
theorem dX9_drawn_148 : decode cX9_drawn 148 = .ok (.iconst 0, 1) := by decide +kernel
theorem dX9_drawn_149 : decode cX9_drawn 149 = .ok (.istore 6, 2) := by decide +kernel
theorem dX9_drawn_151 : decode cX9_drawn 151 = .ok (.iload 6, 2) := by decide +kernel
theorem dX9_drawn_153 : decode cX9_drawn 153 = .ok (.bipush 27, 2) := by decide +kernel
theorem dX9_drawn_155 : decode cX9_drawn 155 = .ok (.if_icmp .ge 23, 3) := by decide +kernel
theorem dX9_drawn_158 : decode cX9_drawn 158 = .ok (.aload_n 0, 1) := by decide +kernel
theorem dX9_drawn_159 : decode cX9_drawn 159 = .ok (.getfield 7, 3) := by decide +kernel
theorem dX9_drawn_162 : decode cX9_drawn 162 = .ok (.iload 6, 2) := by decide +kernel
theorem dX9_drawn_164 : decode cX9_drawn 164 = .ok (.aload_n 0, 1) := by decide +kernel
theorem dX9_drawn_165 : decode cX9_drawn 165 = .ok (.getfield 13, 3) := by decide +kernel
theorem dX9_drawn_168 : decode cX9_drawn 168 = .ok (.iload 6, 2) := by decide +kernel
theorem dX9_drawn_170 : decode cX9_drawn 170 = .ok (.iaload, 1) := by decide +kernel
theorem dX9_drawn_171 : decode cX9_drawn 171 = .ok (.iastore, 1) := by decide +kernel
theorem dX9_drawn_172 : decode cX9_drawn 172 = .ok (.iinc 6 1, 3) := by decide +kernel
theorem dX9_drawn_175 : decode cX9_drawn 175 = .ok (.goto (-24), 3) := by decide +kernel
theorem dX9_drawn_178 : decode cX9_drawn 178 = .ok (.iinc 5 1, 3) := by decide +kernel
theorem dX9_drawn_181 : decode cX9_drawn 181 = .ok (.goto (-108), 3) := by decide +kernel
theorem dX9_drawn_184 : decode cX9_drawn 184 = .ok (.iload 4, 2) := by decide +kernel
theorem dX9_drawn_186 : decode cX9_drawn 186 = .ok (.i2f, 1) := by decide +kernel
theorem dX9_drawn_187 : decode cX9_drawn 187 = .ok (.iload_n 1, 1) := by decide +kernel
theorem dX9_drawn_188 : decode cX9_drawn 188 = .ok (.i2f, 1) := by decide +kernel
theorem dX9_drawn_189 : decode cX9_drawn 189 = .ok (.fdiv, 1) := by decide +kernel
theorem dX9_drawn_190 : decode cX9_drawn 190 = .ok (.invokestatic 190, 3) := by decide +kernel
theorem dX9_drawn_193 : decode cX9_drawn 193 = .ok (.ireturn, 1) := by decide +kernel
set_option maxRecDepth 20000 in
theorem ggX9_put_X9_in : GoodIn wsX9_put wsX9_in := goodIn_r _ [8] (by decide +kernel) (by decide +kernel)
set_option maxRecDepth 20000 in
theorem gX9_put_X9_in : GoodIn wsX9_put (va_wsS RX9 45 yX9_in wsX9_in) := goodIn_app (goodIn_of _ (by decide +kernel)) ggX9_put_X9_in
theorem dX9_put_0 : decode cX9_put 0 = .ok (.aload_n 0, 1) := by decide +kernel
theorem dX9_put_1 : decode cX9_put 1 = .ok (.iconst 0, 1) := by decide +kernel
theorem dX9_put_2 : decode cX9_put 2 = .ok (.putfield 41, 3) := by decide +kernel
theorem dX9_put_5 : decode cX9_put 5 = .ok (.iconst 0, 1) := by decide +kernel
theorem dX9_put_6 : decode cX9_put 6 = .ok (.istore_n 3, 1) := by decide +kernel
theorem dX9_put_7 : decode cX9_put 7 = .ok (.lload_n 1, 1) := by decide +kernel
theorem dX9_put_8 : decode cX9_put 8 = .ok (.lstore 4, 2) := by decide +kernel
theorem dX9_put_10 : decode cX9_put 10 = .ok (.iconst 1, 1) := by decide +kernel
theorem dX9_put_11 : decode cX9_put 11 = .ok (.istore 6, 2) := by decide +kernel
theorem dX9_put_13 : decode cX9_put 13 = .ok (.iload_n 3, 1) := by decide +kernel
theorem dX9_put_14 : decode cX9_put 14 = .ok (.bipush 8, 2) := by decide +kernel
theorem dX9_put_16 : decode cX9_put 16 = .ok (.if_icmp .ge 56, 3) := by decide +kernel
theorem dX9_put_19 : decode cX9_put 19 = .ok (.lload 4, 2) := by decide +kernel
theorem dX9_put_21 : decode cX9_put 21 = .ok (.ldc2_w 196, 3) := by decide +kernel
theorem dX9_put_24 : decode cX9_put 24 = .ok (.land, 1) := by decide +kernel
theorem dX9_put_25 : decode cX9_put 25 = .ok (.lconst 0, 1) := by decide +kernel
theorem dX9_put_26 : decode cX9_put 26 = .ok (.lcmp, 1) := by decide +kernel
theorem dX9_put_27 : decode cX9_put 27 = .ok (.ifCond .eq 45, 3) := by decide +kernel
theorem dX9_put_30 : decode cX9_put 30 = .ok (.iload 6, 2) := by decide +kernel
theorem dX9_put_32 : decode cX9_put 32 = .ok (.ifCond .eq 24, 3) := by decide +kernel
theorem dX9_put_35 : decode cX9_put 35 = .ok (.lload 4, 2) := by decide +kernel
theorem dX9_put_37 : decode cX9_put 37 = .ok (.ldc2_w 196, 3) := by decide +kernel
theorem dX9_put_40 : decode cX9_put 40 = .ok (.land, 1) := by decide +kernel
theorem dX9_put_41 : decode cX9_put 41 = .ok (.l2i, 1) := by decide +kernel
theorem dX9_put_42 : decode cX9_put 42 = .ok (.bipush 33, 2) := by decide +kernel
theorem dX9_put_44 : decode cX9_put 44 = .ok (.bipush 126, 2) := by decide +kernel
theorem dX9_put_46 : decode cX9_put 46 = .ok (.invokestatic 45, 3) := by decide +kernel
theorem dX9_put_49 : decode cX9_put 49 = .ok (.ifCond .eq 7, 3) := by decide +kernel
theorem dX9_put_52 : decode cX9_put 52 = .ok (.iconst 1, 1) := by decide +kernel
theorem dX9_put_53 : decode cX9_put 53 = .ok (.goto 4, 3) := by decide +kernel
theorem dX9_put_56 : decode cX9_put 56 = .ok (.iconst 0, 1) := by decide +kernel
theorem dX9_put_57 : decode cX9_put 57 = .ok (.istore 6, 2) := by decide +kernel
theorem dX9_put_59 : decode cX9_put 59 = .ok (.lload 4, 2) := by decide +kernel
theorem dX9_put_61 : decode cX9_put 61 = .ok (.bipush 8, 2) := by decide +kernel
theorem dX9_put_63 : decode cX9_put 63 = .ok (.lushr, 1) := by decide +kernel
theorem dX9_put_64 : decode cX9_put 64 = .ok (.lstore 4, 2) := by decide +kernel
theorem dX9_put_66 : decode cX9_put 66 = .ok (.iinc 3 1, 3) := by decide +kernel
theorem dX9_put_69 : decode cX9_put 69 = .ok (.goto (-56), 3) := by decide +kernel
theorem dX9_put_72 : decode cX9_put 72 = .ok (.iload_n 3, 1) := by decide +kernel
theorem dX9_put_73 : decode cX9_put 73 = .ok (.ifCond .eq 15, 3) := by decide +kernel
theorem dX9_put_76 : decode cX9_put 76 = .ok (.iload 6, 2) := by decide +kernel
theorem dX9_put_78 : decode cX9_put 78 = .ok (.ifCond .eq 10, 3) := by decide +kernel
theorem dX9_put_81 : decode cX9_put 81 = .ok (.lload 4, 2) := by decide +kernel
theorem dX9_put_83 : decode cX9_put 83 = .ok (.lconst 0, 1) := by decide +kernel
theorem dX9_put_84 : decode cX9_put 84 = .ok (.lcmp, 1) := by decide +kernel
theorem dX9_put_85 : decode cX9_put 85 = .ok (.ifCond .eq 6, 3) := by decide +kernel
theorem dX9_put_88 : decode cX9_put 88 = .ok (.bipush (-2), 2) := by decide +kernel
theorem dX9_put_90 : decode cX9_put 90 = .ok (.ireturn, 1) := by decide +kernel
theorem dX9_put_91 : decode cX9_put 91 = .ok (.aload_n 0, 1) := by decide +kernel
theorem dX9_put_92 : decode cX9_put 92 = .ok (.getfield 176, 3) := by decide +kernel
theorem dX9_put_95 : decode cX9_put 95 = .ok (.iload_n 3, 1) := by decide +kernel
theorem dX9_put_96 : decode cX9_put 96 = .ok (.iadd, 1) := by decide +kernel
theorem dX9_put_97 : decode cX9_put 97 = .ok (.bipush 80, 2) := by decide +kernel
theorem dX9_put_99 : decode cX9_put 99 = .ok (.if_icmp .le 6, 3) := by decide +kernel
theorem dX9_put_102 : decode cX9_put 102 = .ok (.bipush (-4), 2) := by decide +kernel
theorem dX9_put_104 : decode cX9_put 104 = .ok (.ireturn, 1) := by decide +kernel
theorem dX9_put_105 : decode cX9_put 105 = .ok (.iconst 0, 1) := by decide +kernel
theorem dX9_put_106 : decode cX9_put 106 = .ok (.istore 7, 2) := by decide +kernel
theorem dX9_put_108 : decode cX9_put 108 = .ok (.iload 7, 2) := by decide +kernel
theorem dX9_put_110 : decode cX9_put 110 = .ok (.iload_n 3, 1) := by decide +kernel
theorem dX9_put_111 : decode cX9_put 111 = .ok (.if_icmp .ge 37, 3) := by decide +kernel
theorem dX9_put_114 : decode cX9_put 114 = .ok (.aload_n 0, 1) := by decide +kernel
theorem dX9_put_115 : decode cX9_put 115 = .ok (.getfield 26, 3) := by decide +kernel
theorem dX9_put_118 : decode cX9_put 118 = .ok (.aload_n 0, 1) := by decide +kernel
theorem dX9_put_119 : decode cX9_put 119 = .ok (.getfield 176, 3) := by decide +kernel
theorem dX9_put_122 : decode cX9_put 122 = .ok (.iload 7, 2) := by decide +kernel
theorem dX9_put_124 : decode cX9_put 124 = .ok (.iadd, 1) := by decide +kernel
theorem dX9_put_125 : decode cX9_put 125 = .ok (.lload_n 1, 1) := by decide +kernel
theorem dX9_put_126 : decode cX9_put 126 = .ok (.bipush 8, 2) := by decide +kernel
theorem dX9_put_128 : decode cX9_put 128 = .ok (.iload_n 3, 1) := by decide +kernel
theorem dX9_put_129 : decode cX9_put 129 = .ok (.iconst 1, 1) := by decide +kernel
theorem dX9_put_130 : decode cX9_put 130 = .ok (.isub, 1) := by decide +kernel
theorem dX9_put_131 : decode cX9_put 131 = .ok (.iload 7, 2) := by decide +kernel
theorem dX9_put_133 : decode cX9_put 133 = .ok (.isub, 1) := by decide +kernel
theorem dX9_put_134 : decode cX9_put 134 = .ok (.imul, 1) := by decide +kernel
theorem dX9_put_135 : decode cX9_put 135 = .ok (.lushr, 1) := by decide +kernel
theorem dX9_put_136 : decode cX9_put 136 = .ok (.ldc2_w 196, 3) := by decide +kernel
theorem dX9_put_139 : decode cX9_put 139 = .ok (.land, 1) := by decide +kernel
theorem dX9_put_140 : decode cX9_put 140 = .ok (.l2i, 1) := by decide +kernel
theorem dX9_put_141 : decode cX9_put 141 = .ok (.iastore, 1) := by decide +kernel
theorem dX9_put_142 : decode cX9_put 142 = .ok (.iinc 7 1, 3) := by decide +kernel
theorem dX9_put_145 : decode cX9_put 145 = .ok (.goto (-37), 3) := by decide +kernel
theorem dX9_put_148 : decode cX9_put 148 = .ok (.aload_n 0, 1) := by decide +kernel
theorem dX9_put_149 : decode cX9_put 149 = .ok (.dup, 1) := by decide +kernel
theorem dX9_put_150 : decode cX9_put 150 = .ok (.getfield 176, 3) := by decide +kernel
theorem dX9_put_153 : decode cX9_put 153 = .ok (.iload_n 3, 1) := by decide +kernel
theorem dX9_put_154 : decode cX9_put 154 = .ok (.iadd, 1) := by decide +kernel
theorem dX9_put_155 : decode cX9_put 155 = .ok (.putfield 176, 3) := by decide +kernel
theorem dX9_put_158 : decode cX9_put 158 = .ok (.aload_n 0, 1) := by decide +kernel
theorem dX9_put_159 : decode cX9_put 159 = .ok (.getfield 176, 3) := by decide +kernel
theorem dX9_put_162 : decode cX9_put 162 = .ok (.ireturn, 1) := by decide +kernel
theorem dX9_wipe_0 : decode cX9_wipe 0 = .ok (.aload_n 0, 1) := by decide +kernel
theorem dX9_wipe_1 : decode cX9_wipe 1 = .ok (.iconst 0, 1) := by decide +kernel
theorem dX9_wipe_2 : decode cX9_wipe 2 = .ok (.putfield 41, 3) := by decide +kernel
theorem dX9_wipe_5 : decode cX9_wipe 5 = .ok (.aload_n 0, 1) := by decide +kernel
theorem dX9_wipe_6 : decode cX9_wipe 6 = .ok (.getfield 176, 3) := by decide +kernel
theorem dX9_wipe_9 : decode cX9_wipe 9 = .ok (.istore_n 1, 1) := by decide +kernel
theorem dX9_wipe_10 : decode cX9_wipe 10 = .ok (.aload_n 0, 1) := by decide +kernel
theorem dX9_wipe_11 : decode cX9_wipe 11 = .ok (.iconst 0, 1) := by decide +kernel
theorem dX9_wipe_12 : decode cX9_wipe 12 = .ok (.putfield 176, 3) := by decide +kernel
theorem dX9_wipe_15 : decode cX9_wipe 15 = .ok (.iload_n 1, 1) := by decide +kernel
theorem dX9_wipe_16 : decode cX9_wipe 16 = .ok (.ireturn, 1) := by decide +kernel
theorem dX9_letter_0 : decode cX9_letter 0 = .ok (.aload_n 0, 1) := by decide +kernel
theorem dX9_letter_1 : decode cX9_letter 1 = .ok (.getfield 198, 3) := by decide +kernel
theorem dX9_letter_4 : decode cX9_letter 4 = .ok (.aload_n 0, 1) := by decide +kernel
theorem dX9_letter_5 : decode cX9_letter 5 = .ok (.getfield 176, 3) := by decide +kernel
theorem dX9_letter_8 : decode cX9_letter 8 = .ok (.if_icmp .ge 15, 3) := by decide +kernel
theorem dX9_letter_11 : decode cX9_letter 11 = .ok (.aload_n 0, 1) := by decide +kernel
theorem dX9_letter_12 : decode cX9_letter 12 = .ok (.getfield 26, 3) := by decide +kernel
theorem dX9_letter_15 : decode cX9_letter 15 = .ok (.aload_n 0, 1) := by decide +kernel
theorem dX9_letter_16 : decode cX9_letter 16 = .ok (.getfield 198, 3) := by decide +kernel
theorem dX9_letter_19 : decode cX9_letter 19 = .ok (.iaload, 1) := by decide +kernel
theorem dX9_letter_20 : decode cX9_letter 20 = .ok (.goto 4, 3) := by decide +kernel
theorem dX9_letter_23 : decode cX9_letter 23 = .ok (.iconst 0, 1) := by decide +kernel
theorem dX9_letter_24 : decode cX9_letter 24 = .ok (.ireturn, 1) := by decide +kernel
set_option maxRecDepth 20000 in
theorem ggX9_digit_X9_letter : GoodIn wsX9_digit wsX9_letter := goodIn_r _ [7, 2, 8, 9, 13, 14, 15, 16, 17, 18, 19, 20, 21, 22, 23, 24, 25, 26, 27, 28] (by decide +kernel) (by decide +kernel)
set_option maxRecDepth 20000 in
theorem gX9_digit_X9_letter : GoodIn wsX9_digit (wsV RX9 205 RX9 yX9_letter wsX9_letter) := goodIn_app (goodIn_of _ (by decide +kernel)) ggX9_digit_X9_letter
set_option maxRecDepth 20000 in
theorem ggX9_digit_X9_in : GoodIn wsX9_digit wsX9_in := goodIn_r _ [12] (by decide +kernel) (by decide +kernel)
set_option maxRecDepth 20000 in
theorem gX9_digit_X9_in : GoodIn wsX9_digit (va_wsS RX9 45 yX9_in wsX9_in) := goodIn_app (goodIn_of _ (by decide +kernel)) ggX9_digit_X9_in
theorem dX9_digit_0 : decode cX9_digit 0 = .ok (.aload_n 0, 1) := by decide +kernel
theorem dX9_digit_1 : decode cX9_digit 1 = .ok (.aload_n 0, 1) := by decide +kernel
theorem dX9_digit_2 : decode cX9_digit 2 = .ok (.getfield 201, 3) := by decide +kernel
theorem dX9_digit_5 : decode cX9_digit 5 = .ok (.ifCond .eq 21, 3) := by decide +kernel
theorem dX9_digit_8 : decode cX9_digit 8 = .ok (.aload_n 0, 1) := by decide +kernel
theorem dX9_digit_9 : decode cX9_digit 9 = .ok (.invokevirtual 205, 3) := by decide +kernel
theorem dX9_digit_12 : decode cX9_digit 12 = .ok (.bipush 48, 2) := by decide +kernel
theorem dX9_digit_14 : decode cX9_digit 14 = .ok (.bipush 57, 2) := by decide +kernel
theorem dX9_digit_16 : decode cX9_digit 16 = .ok (.invokestatic 45, 3) := by decide +kernel
theorem dX9_digit_19 : decode cX9_digit 19 = .ok (.ifCond .eq 7, 3) := by decide +kernel
theorem dX9_digit_22 : decode cX9_digit 22 = .ok (.iconst 1, 1) := by decide +kernel
theorem dX9_digit_23 : decode cX9_digit 23 = .ok (.goto 4, 3) := by decide +kernel
theorem dX9_digit_26 : decode cX9_digit 26 = .ok (.iconst 0, 1) := by decide +kernel
theorem dX9_digit_27 : decode cX9_digit 27 = .ok (.putfield 201, 3) := by decide +kernel
theorem dX9_digit_30 : decode cX9_digit 30 = .ok (.aload_n 0, 1) := by decide +kernel
theorem dX9_digit_31 : decode cX9_digit 31 = .ok (.invokevirtual 205, 3) := by decide +kernel
theorem dX9_digit_34 : decode cX9_digit 34 = .ok (.bipush 48, 2) := by decide +kernel
theorem dX9_digit_36 : decode cX9_digit 36 = .ok (.isub, 1) := by decide +kernel
theorem dX9_digit_37 : decode cX9_digit 37 = .ok (.istore_n 1, 1) := by decide +kernel
theorem dX9_digit_38 : decode cX9_digit 38 = .ok (.aload_n 0, 1) := by decide +kernel
theorem dX9_digit_39 : decode cX9_digit 39 = .ok (.dup, 1) := by decide +kernel
theorem dX9_digit_40 : decode cX9_digit 40 = .ok (.getfield 198, 3) := by decide +kernel
theorem dX9_digit_43 : decode cX9_digit 43 = .ok (.aload_n 0, 1) := by decide +kernel
theorem dX9_digit_44 : decode cX9_digit 44 = .ok (.getfield 201, 3) := by decide +kernel
theorem dX9_digit_47 : decode cX9_digit 47 = .ok (.ifCond .eq 7, 3) := by decide +kernel
theorem dX9_digit_50 : decode cX9_digit 50 = .ok (.iconst 1, 1) := by decide +kernel
theorem dX9_digit_51 : decode cX9_digit 51 = .ok (.goto 4, 3) := by decide +kernel
theorem dX9_digit_54 : decode cX9_digit 54 = .ok (.iconst 0, 1) := by decide +kernel
theorem dX9_digit_55 : decode cX9_digit 55 = .ok (.iadd, 1) := by decide +kernel
theorem dX9_digit_56 : decode cX9_digit 56 = .ok (.putfield 198, 3) := by decide +kernel
theorem dX9_digit_59 : decode cX9_digit 59 = .ok (.iload_n 1, 1) := by decide +kernel
theorem dX9_digit_60 : decode cX9_digit 60 = .ok (.ireturn, 1) := by decide +kernel
set_option maxRecDepth 20000 in
theorem ggX9_hasSign_X9_letter : GoodIn wsX9_hasSign wsX9_letter := goodIn_r _ [7, 2, 8, 9, 10, 11, 12, 13, 14, 15, 16, 17, 18, 19, 20, 21, 22, 23, 24, 25] (by decide +kernel) (by decide +kernel)
set_option maxRecDepth 20000 in
theorem gX9_hasSign_X9_letter : GoodIn wsX9_hasSign (wsV RX9 205 RX9 yX9_letter wsX9_letter) := goodIn_app (goodIn_of _ (by decide +kernel)) ggX9_hasSign_X9_letter
theorem dX9_hasSign_0 : decode cX9_hasSign 0 = .ok (.aload_n 0, 1) := by decide +kernel
theorem dX9_hasSign_1 : decode cX9_hasSign 1 = .ok (.getfield 201, 3) := by decide +kernel
theorem dX9_hasSign_4 : decode cX9_hasSign 4 = .ok (.ifCond .eq 15, 3) := by decide +kernel
theorem dX9_hasSign_7 : decode cX9_hasSign 7 = .ok (.aload_n 0, 1) := by decide +kernel
theorem dX9_hasSign_8 : decode cX9_hasSign 8 = .ok (.invokevirtual 205, 3) := by decide +kernel
theorem dX9_hasSign_11 : decode cX9_hasSign 11 = .ok (.iload_n 1, 1) := by decide +kernel
theorem dX9_hasSign_12 : decode cX9_hasSign 12 = .ok (.if_icmp .ne 7, 3) := by decide +kernel
theorem dX9_hasSign_15 : decode cX9_hasSign 15 = .ok (.iconst 1, 1) := by decide +kernel
theorem dX9_hasSign_16 : decode cX9_hasSign 16 = .ok (.goto 4, 3) := by decide +kernel
theorem dX9_hasSign_19 : decode cX9_hasSign 19 = .ok (.iconst 0, 1) := by decide +kernel
theorem dX9_hasSign_20 : decode cX9_hasSign 20 = .ok (.istore_n 2, 1) := by decide +kernel
theorem dX9_hasSign_21 : decode cX9_hasSign 21 = .ok (.aload_n 0, 1) := by decide +kernel
theorem dX9_hasSign_22 : decode cX9_hasSign 22 = .ok (.dup, 1) := by decide +kernel
theorem dX9_hasSign_23 : decode cX9_hasSign 23 = .ok (.getfield 198, 3) := by decide +kernel
theorem dX9_hasSign_26 : decode cX9_hasSign 26 = .ok (.iload_n 2, 1) := by decide +kernel
theorem dX9_hasSign_27 : decode cX9_hasSign 27 = .ok (.ifCond .eq 7, 3) := by decide +kernel
theorem dX9_hasSign_30 : decode cX9_hasSign 30 = .ok (.iconst 1, 1) := by decide +kernel
theorem dX9_hasSign_31 : decode cX9_hasSign 31 = .ok (.goto 4, 3) := by decide +kernel
theorem dX9_hasSign_34 : decode cX9_hasSign 34 = .ok (.iconst 0, 1) := by decide +kernel
theorem dX9_hasSign_35 : decode cX9_hasSign 35 = .ok (.iadd, 1) := by decide +kernel
theorem dX9_hasSign_36 : decode cX9_hasSign 36 = .ok (.putfield 198, 3) := by decide +kernel
theorem dX9_hasSign_39 : decode cX9_hasSign 39 = .ok (.iload_n 2, 1) := by decide +kernel
theorem dX9_hasSign_40 : decode cX9_hasSign 40 = .ok (.ireturn, 1) := by decide +kernel
set_option maxRecDepth 20000 in
theorem ggX9_readsOrder_X9_letter : GoodIn wsX9_readsOrder wsX9_letter := goodIn_r _ [9, 3, 10, 11, 23, 24, 25, 26, 27, 28, 29, 30, 31, 32, 33, 34, 35, 36, 37, 38] (by decide +kernel) (by decide +kernel)
set_option maxRecDepth 20000 in
theorem gX9_readsOrder_X9_letter : GoodIn wsX9_readsOrder (wsV RX9 205 RX9 yX9_letter wsX9_letter) := goodIn_app (goodIn_of _ (by decide +kernel)) ggX9_readsOrder_X9_letter
set_option maxRecDepth 20000 in
theorem ggX9_readsOrder_X9_digit : GoodIn wsX9_readsOrder wsX9_digit := goodIn_r _ [15, 2, 3, 5, 6, 7, 8, 9, 10, 11, 16, 17, 18, 23, 24, 25, 26, 27, 28, 29, 30, 31, 32, 33, 34, 35, 36, 37, 38] (by decide +kernel) (by decide +kernel)
set_option maxRecDepth 20000 in
theorem gX9_readsOrder_X9_digit : GoodIn wsX9_readsOrder (wsV RX9 211 RX9 yX9_digit wsX9_digit) := goodIn_app (goodIn_of _ (by decide +kernel)) ggX9_readsOrder_X9_digit
set_option maxRecDepth 20000 in
theorem ggX9_readsOrder_X9_hasSign : GoodIn wsX9_readsOrder wsX9_hasSign := goodIn_r _ [22, 2, 3, 5, 6, 7, 8, 9, 10, 11, 23, 24, 25, 26, 27, 28, 29, 30, 31, 32, 33, 34, 35, 36, 37, 38] (by decide +kernel) (by decide +kernel)
set_option maxRecDepth 20000 in
theorem gX9_readsOrder_X9_hasSign : GoodIn wsX9_readsOrder (wsV RX9 214 RX9 yX9_hasSign wsX9_hasSign) := goodIn_app (goodIn_of _ (by decide +kernel)) ggX9_readsOrder_X9_hasSign
theorem dX9_readsOrder_0 : decode cX9_readsOrder 0 = .ok (.iconst 4, 1) := by decide +kernel
theorem dX9_readsOrder_1 : decode cX9_readsOrder 1 = .ok (.aload_n 0, 1) := by decide +kernel
theorem dX9_readsOrder_2 : decode cX9_readsOrder 2 = .ok (.getfield 208, 3) := by decide +kernel
theorem dX9_readsOrder_5 : decode cX9_readsOrder 5 = .ok (.imul, 1) := by decide +kernel
theorem dX9_readsOrder_6 : decode cX9_readsOrder 6 = .ok (.istore_n 1, 1) := by decide +kernel
theorem dX9_readsOrder_7 : decode cX9_readsOrder 7 = .ok (.aload_n 0, 1) := by decide +kernel
theorem dX9_readsOrder_8 : decode cX9_readsOrder 8 = .ok (.invokevirtual 205, 3) := by decide +kernel
theorem dX9_readsOrder_11 : decode cX9_readsOrder 11 = .ok (.istore_n 2, 1) := by decide +kernel
theorem dX9_readsOrder_12 : decode cX9_readsOrder 12 = .ok (.aload_n 0, 1) := by decide +kernel
theorem dX9_readsOrder_13 : decode cX9_readsOrder 13 = .ok (.iload_n 2, 1) := by decide +kernel
theorem dX9_readsOrder_14 : decode cX9_readsOrder 14 = .ok (.bipush 43, 2) := by decide +kernel
theorem dX9_readsOrder_16 : decode cX9_readsOrder 16 = .ok (.if_icmp .eq 27, 3) := by decide +kernel
theorem dX9_readsOrder_19 : decode cX9_readsOrder 19 = .ok (.iload_n 2, 1) := by decide +kernel
theorem dX9_readsOrder_20 : decode cX9_readsOrder 20 = .ok (.bipush 45, 2) := by decide +kernel
theorem dX9_readsOrder_22 : decode cX9_readsOrder 22 = .ok (.if_icmp .eq 21, 3) := by decide +kernel
theorem dX9_readsOrder_25 : decode cX9_readsOrder 25 = .ok (.iload_n 2, 1) := by decide +kernel
theorem dX9_readsOrder_26 : decode cX9_readsOrder 26 = .ok (.bipush 112, 2) := by decide +kernel
theorem dX9_readsOrder_28 : decode cX9_readsOrder 28 = .ok (.if_icmp .eq 15, 3) := by decide +kernel
theorem dX9_readsOrder_31 : decode cX9_readsOrder 31 = .ok (.iload_n 2, 1) := by decide +kernel
theorem dX9_readsOrder_32 : decode cX9_readsOrder 32 = .ok (.bipush 109, 2) := by decide +kernel
theorem dX9_readsOrder_34 : decode cX9_readsOrder 34 = .ok (.if_icmp .eq 9, 3) := by decide +kernel
theorem dX9_readsOrder_37 : decode cX9_readsOrder 37 = .ok (.iload_n 2, 1) := by decide +kernel
theorem dX9_readsOrder_38 : decode cX9_readsOrder 38 = .ok (.bipush 114, 2) := by decide +kernel
theorem dX9_readsOrder_40 : decode cX9_readsOrder 40 = .ok (.if_icmp .ne 7, 3) := by decide +kernel
theorem dX9_readsOrder_43 : decode cX9_readsOrder 43 = .ok (.iconst 1, 1) := by decide +kernel
theorem dX9_readsOrder_44 : decode cX9_readsOrder 44 = .ok (.goto 4, 3) := by decide +kernel
theorem dX9_readsOrder_47 : decode cX9_readsOrder 47 = .ok (.iconst 0, 1) := by decide +kernel
theorem dX9_readsOrder_48 : decode cX9_readsOrder 48 = .ok (.putfield 201, 3) := by decide +kernel
theorem dX9_readsOrder_51 : decode cX9_readsOrder 51 = .ok (.aload_n 0, 1) := by decide +kernel
theorem dX9_readsOrder_52 : decode cX9_readsOrder 52 = .ok (.dup, 1) := by decide +kernel
theorem dX9_readsOrder_53 : decode cX9_readsOrder 53 = .ok (.getfield 198, 3) := by decide +kernel
theorem dX9_readsOrder_56 : decode cX9_readsOrder 56 = .ok (.aload_n 0, 1) := by decide +kernel
theorem dX9_readsOrder_57 : decode cX9_readsOrder 57 = .ok (.getfield 201, 3) := by decide +kernel
theorem dX9_readsOrder_60 : decode cX9_readsOrder 60 = .ok (.ifCond .eq 7, 3) := by decide +kernel
theorem dX9_readsOrder_63 : decode cX9_readsOrder 63 = .ok (.iconst 1, 1) := by decide +kernel
theorem dX9_readsOrder_64 : decode cX9_readsOrder 64 = .ok (.goto 4, 3) := by decide +kernel
theorem dX9_readsOrder_67 : decode cX9_readsOrder 67 = .ok (.iconst 0, 1) := by decide +kernel
theorem dX9_readsOrder_68 : decode cX9_readsOrder 68 = .ok (.iadd, 1) := by decide +kernel
theorem dX9_readsOrder_69 : decode cX9_readsOrder 69 = .ok (.putfield 198, 3) := by decide +kernel
theorem dX9_readsOrder_72 : decode cX9_readsOrder 72 = .ok (.aload_n 0, 1) := by decide +kernel
theorem dX9_readsOrder_73 : decode cX9_readsOrder 73 = .ok (.getfield 38, 3) := by decide +kernel
theorem dX9_readsOrder_76 : decode cX9_readsOrder 76 = .ok (.iload_n 1, 1) := by decide +kernel
theorem dX9_readsOrder_77 : decode cX9_readsOrder 77 = .ok (.iload_n 2, 1) := by decide +kernel
theorem dX9_readsOrder_78 : decode cX9_readsOrder 78 = .ok (.iastore, 1) := by decide +kernel
theorem dX9_readsOrder_79 : decode cX9_readsOrder 79 = .ok (.aload_n 0, 1) := by decide +kernel
theorem dX9_readsOrder_80 : decode cX9_readsOrder 80 = .ok (.getfield 38, 3) := by decide +kernel
theorem dX9_readsOrder_83 : decode cX9_readsOrder 83 = .ok (.iload_n 1, 1) := by decide +kernel
theorem dX9_readsOrder_84 : decode cX9_readsOrder 84 = .ok (.iconst 1, 1) := by decide +kernel
theorem dX9_readsOrder_85 : decode cX9_readsOrder 85 = .ok (.iadd, 1) := by decide +kernel
theorem dX9_readsOrder_86 : decode cX9_readsOrder 86 = .ok (.iload_n 2, 1) := by decide +kernel
theorem dX9_readsOrder_87 : decode cX9_readsOrder 87 = .ok (.bipush 112, 2) := by decide +kernel
theorem dX9_readsOrder_89 : decode cX9_readsOrder 89 = .ok (.if_icmp .eq 9, 3) := by decide +kernel
theorem dX9_readsOrder_92 : decode cX9_readsOrder 92 = .ok (.iload_n 2, 1) := by decide +kernel
theorem dX9_readsOrder_93 : decode cX9_readsOrder 93 = .ok (.bipush 109, 2) := by decide +kernel
theorem dX9_readsOrder_95 : decode cX9_readsOrder 95 = .ok (.if_icmp .ne 7, 3) := by decide +kernel
theorem dX9_readsOrder_98 : decode cX9_readsOrder 98 = .ok (.iconst 0, 1) := by decide +kernel
theorem dX9_readsOrder_99 : decode cX9_readsOrder 99 = .ok (.goto 7, 3) := by decide +kernel
theorem dX9_readsOrder_102 : decode cX9_readsOrder 102 = .ok (.aload_n 0, 1) := by decide +kernel
theorem dX9_readsOrder_103 : decode cX9_readsOrder 103 = .ok (.invokevirtual 211, 3) := by decide +kernel
theorem dX9_readsOrder_106 : decode cX9_readsOrder 106 = .ok (.iastore, 1) := by decide +kernel
theorem dX9_readsOrder_107 : decode cX9_readsOrder 107 = .ok (.aload_n 0, 1) := by decide +kernel
theorem dX9_readsOrder_108 : decode cX9_readsOrder 108 = .ok (.getfield 38, 3) := by decide +kernel
theorem dX9_readsOrder_111 : decode cX9_readsOrder 111 = .ok (.iload_n 1, 1) := by decide +kernel
theorem dX9_readsOrder_112 : decode cX9_readsOrder 112 = .ok (.iconst 2, 1) := by decide +kernel
theorem dX9_readsOrder_113 : decode cX9_readsOrder 113 = .ok (.iadd, 1) := by decide +kernel
theorem dX9_readsOrder_114 : decode cX9_readsOrder 114 = .ok (.iload_n 2, 1) := by decide +kernel
theorem dX9_readsOrder_115 : decode cX9_readsOrder 115 = .ok (.bipush 43, 2) := by decide +kernel
theorem dX9_readsOrder_117 : decode cX9_readsOrder 117 = .ok (.if_icmp .ne 23, 3) := by decide +kernel
theorem dX9_readsOrder_120 : decode cX9_readsOrder 120 = .ok (.aload_n 0, 1) := by decide +kernel
theorem dX9_readsOrder_121 : decode cX9_readsOrder 121 = .ok (.bipush 119, 2) := by decide +kernel
theorem dX9_readsOrder_123 : decode cX9_readsOrder 123 = .ok (.invokevirtual 214, 3) := by decide +kernel
theorem dX9_readsOrder_126 : decode cX9_readsOrder 126 = .ok (.ifCond .eq 10, 3) := by decide +kernel
theorem dX9_readsOrder_129 : decode cX9_readsOrder 129 = .ok (.aload_n 0, 1) := by decide +kernel
theorem dX9_readsOrder_130 : decode cX9_readsOrder 130 = .ok (.invokevirtual 211, 3) := by decide +kernel
theorem dX9_readsOrder_133 : decode cX9_readsOrder 133 = .ok (.goto 8, 3) := by decide +kernel
theorem dX9_readsOrder_136 : decode cX9_readsOrder 136 = .ok (.iconst 1, 1) := by decide +kernel
theorem dX9_readsOrder_137 : decode cX9_readsOrder 137 = .ok (.goto 4, 3) := by decide +kernel
theorem dX9_readsOrder_140 : decode cX9_readsOrder 140 = .ok (.iconst 0, 1) := by decide +kernel
theorem dX9_readsOrder_141 : decode cX9_readsOrder 141 = .ok (.iastore, 1) := by decide +kernel
theorem dX9_readsOrder_142 : decode cX9_readsOrder 142 = .ok (.iload_n 2, 1) := by decide +kernel
theorem dX9_readsOrder_143 : decode cX9_readsOrder 143 = .ok (.bipush 45, 2) := by decide +kernel
theorem dX9_readsOrder_145 : decode cX9_readsOrder 145 = .ok (.if_icmp .ne 13, 3) := by decide +kernel
theorem dX9_readsOrder_148 : decode cX9_readsOrder 148 = .ok (.aload_n 0, 1) := by decide +kernel
theorem dX9_readsOrder_149 : decode cX9_readsOrder 149 = .ok (.aload_n 0, 1) := by decide +kernel
theorem dX9_readsOrder_150 : decode cX9_readsOrder 150 = .ok (.bipush 46, 2) := by decide +kernel
theorem dX9_readsOrder_152 : decode cX9_readsOrder 152 = .ok (.invokevirtual 214, 3) := by decide +kernel
theorem dX9_readsOrder_155 : decode cX9_readsOrder 155 = .ok (.putfield 201, 3) := by decide +kernel
theorem dX9_readsOrder_158 : decode cX9_readsOrder 158 = .ok (.aload_n 0, 1) := by decide +kernel
theorem dX9_readsOrder_159 : decode cX9_readsOrder 159 = .ok (.getfield 38, 3) := by decide +kernel
theorem dX9_readsOrder_162 : decode cX9_readsOrder 162 = .ok (.iload_n 1, 1) := by decide +kernel
theorem dX9_readsOrder_163 : decode cX9_readsOrder 163 = .ok (.iconst 2, 1) := by decide +kernel
theorem dX9_readsOrder_164 : decode cX9_readsOrder 164 = .ok (.iadd, 1) := by decide +kernel
theorem dX9_readsOrder_165 : decode cX9_readsOrder 165 = .ok (.iload_n 2, 1) := by decide +kernel
theorem dX9_readsOrder_166 : decode cX9_readsOrder 166 = .ok (.bipush 45, 2) := by decide +kernel
theorem dX9_readsOrder_168 : decode cX9_readsOrder 168 = .ok (.if_icmp .eq 9, 3) := by decide +kernel
theorem dX9_readsOrder_171 : decode cX9_readsOrder 171 = .ok (.iload_n 2, 1) := by decide +kernel
theorem dX9_readsOrder_172 : decode cX9_readsOrder 172 = .ok (.bipush 114, 2) := by decide +kernel
theorem dX9_readsOrder_174 : decode cX9_readsOrder 174 = .ok (.if_icmp .ne 10, 3) := by decide +kernel
theorem dX9_readsOrder_177 : decode cX9_readsOrder 177 = .ok (.aload_n 0, 1) := by decide +kernel
theorem dX9_readsOrder_178 : decode cX9_readsOrder 178 = .ok (.invokevirtual 211, 3) := by decide +kernel
theorem dX9_readsOrder_181 : decode cX9_readsOrder 181 = .ok (.goto 11, 3) := by decide +kernel
theorem dX9_readsOrder_184 : decode cX9_readsOrder 184 = .ok (.aload_n 0, 1) := by decide +kernel
theorem dX9_readsOrder_185 : decode cX9_readsOrder 185 = .ok (.getfield 38, 3) := by decide +kernel
theorem dX9_readsOrder_188 : decode cX9_readsOrder 188 = .ok (.iload_n 1, 1) := by decide +kernel
theorem dX9_readsOrder_189 : decode cX9_readsOrder 189 = .ok (.iconst 2, 1) := by decide +kernel
theorem dX9_readsOrder_190 : decode cX9_readsOrder 190 = .ok (.iadd, 1) := by decide +kernel
theorem dX9_readsOrder_191 : decode cX9_readsOrder 191 = .ok (.iaload, 1) := by decide +kernel
theorem dX9_readsOrder_192 : decode cX9_readsOrder 192 = .ok (.iastore, 1) := by decide +kernel
theorem dX9_readsOrder_193 : decode cX9_readsOrder 193 = .ok (.aload_n 0, 1) := by decide +kernel
theorem dX9_readsOrder_194 : decode cX9_readsOrder 194 = .ok (.getfield 38, 3) := by decide +kernel
theorem dX9_readsOrder_197 : decode cX9_readsOrder 197 = .ok (.iload_n 1, 1) := by decide +kernel
theorem dX9_readsOrder_198 : decode cX9_readsOrder 198 = .ok (.iconst 3, 1) := by decide +kernel
theorem dX9_readsOrder_199 : decode cX9_readsOrder 199 = .ok (.iadd, 1) := by decide +kernel
theorem dX9_readsOrder_200 : decode cX9_readsOrder 200 = .ok (.iload_n 2, 1) := by decide +kernel
theorem dX9_readsOrder_201 : decode cX9_readsOrder 201 = .ok (.bipush 43, 2) := by decide +kernel
theorem dX9_readsOrder_203 : decode cX9_readsOrder 203 = .ok (.if_icmp .ne 16, 3) := by decide +kernel
theorem dX9_readsOrder_206 : decode cX9_readsOrder 206 = .ok (.aload_n 0, 1) := by decide +kernel
theorem dX9_readsOrder_207 : decode cX9_readsOrder 207 = .ok (.bipush 33, 2) := by decide +kernel
theorem dX9_readsOrder_209 : decode cX9_readsOrder 209 = .ok (.invokevirtual 214, 3) := by decide +kernel
theorem dX9_readsOrder_212 : decode cX9_readsOrder 212 = .ok (.ifCond .eq 7, 3) := by decide +kernel
theorem dX9_readsOrder_215 : decode cX9_readsOrder 215 = .ok (.iconst 1, 1) := by decide +kernel
theorem dX9_readsOrder_216 : decode cX9_readsOrder 216 = .ok (.goto 4, 3) := by decide +kernel
theorem dX9_readsOrder_219 : decode cX9_readsOrder 219 = .ok (.iconst 0, 1) := by decide +kernel
theorem dX9_readsOrder_220 : decode cX9_readsOrder 220 = .ok (.iastore, 1) := by decide +kernel
theorem dX9_readsOrder_221 : decode cX9_readsOrder 221 = .ok (.aload_n 0, 1) := by decide +kernel
theorem dX9_readsOrder_222 : decode cX9_readsOrder 222 = .ok (.dup, 1) := by decide +kernel
theorem dX9_readsOrder_223 : decode cX9_readsOrder 223 = .ok (.getfield 208, 3) := by decide +kernel
theorem dX9_readsOrder_226 : decode cX9_readsOrder 226 = .ok (.aload_n 0, 1) := by decide +kernel
theorem dX9_readsOrder_227 : decode cX9_readsOrder 227 = .ok (.getfield 201, 3) := by decide +kernel
theorem dX9_readsOrder_230 : decode cX9_readsOrder 230 = .ok (.ifCond .eq 7, 3) := by decide +kernel
theorem dX9_readsOrder_233 : decode cX9_readsOrder 233 = .ok (.iconst 1, 1) := by decide +kernel
theorem dX9_readsOrder_234 : decode cX9_readsOrder 234 = .ok (.goto 4, 3) := by decide +kernel
theorem dX9_readsOrder_237 : decode cX9_readsOrder 237 = .ok (.iconst 0, 1) := by decide +kernel
theorem dX9_readsOrder_238 : decode cX9_readsOrder 238 = .ok (.iadd, 1) := by decide +kernel
theorem dX9_readsOrder_239 : decode cX9_readsOrder 239 = .ok (.putfield 208, 3) := by decide +kernel
theorem dX9_readsOrder_242 : decode cX9_readsOrder 242 = .ok (.return_, 1) := by decide +kernel
set_option maxRecDepth 20000 in
theorem ggX9_reads_X9_readsOrder : GoodIn wsX9_reads wsX9_readsOrder := goodIn_r _ [9, 2, 3, 1, 10, 11, 12, 13, 8, 14, 4, 15, 16, 17, 18, 19, 20, 21, 22, 23, 24, 25, 26, 27, 28, 29, 30, 31, 32, 33, 34, 35, 36, 37, 38, 39, 40, 41, 42] (by decide +kernel) (by decide +kernel)
set_option maxRecDepth 20000 in
theorem gX9_reads_X9_readsOrder : GoodIn wsX9_reads (wsV RX9 217 RX9 yX9_readsOrder wsX9_readsOrder) := goodIn_app (goodIn_of _ (by decide +kernel)) ggX9_reads_X9_readsOrder
set_option maxRecDepth 20000 in
theorem ggX9_reads_X9_hasSign : GoodIn wsX9_reads wsX9_hasSign := goodIn_r _ [26, 3, 1, 11, 12, 13, 8, 14, 4, 15, 27, 28, 29, 30, 31, 32, 33, 34, 35, 36, 37, 38, 39, 40, 41, 42] (by decide +kernel) (by decide +kernel)
set_option maxRecDepth 20000 in
theorem gX9_reads_X9_hasSign : GoodIn wsX9_reads (wsV RX9 214 RX9 yX9_hasSign wsX9_hasSign) := goodIn_app (goodIn_of _ (by decide +kernel)) ggX9_reads_X9_hasSign
theorem dX9_reads_0 : decode cX9_reads 0 = .ok (.aload_n 0, 1) := by decide +kernel
theorem dX9_reads_1 : decode cX9_reads 1 = .ok (.iconst 0, 1) := by decide +kernel
theorem dX9_reads_2 : decode cX9_reads 2 = .ok (.putfield 198, 3) := by decide +kernel
theorem dX9_reads_5 : decode cX9_reads 5 = .ok (.aload_n 0, 1) := by decide +kernel
theorem dX9_reads_6 : decode cX9_reads 6 = .ok (.iconst 0, 1) := by decide +kernel
theorem dX9_reads_7 : decode cX9_reads 7 = .ok (.putfield 208, 3) := by decide +kernel
theorem dX9_reads_10 : decode cX9_reads 10 = .ok (.aload_n 0, 1) := by decide +kernel
theorem dX9_reads_11 : decode cX9_reads 11 = .ok (.invokevirtual 217, 3) := by decide +kernel
theorem dX9_reads_14 : decode cX9_reads 14 = .ok (.aload_n 0, 1) := by decide +kernel
theorem dX9_reads_15 : decode cX9_reads 15 = .ok (.getfield 201, 3) := by decide +kernel
theorem dX9_reads_18 : decode cX9_reads 18 = .ok (.ifCond .eq 38, 3) := by decide +kernel
theorem dX9_reads_21 : decode cX9_reads 21 = .ok (.aload_n 0, 1) := by decide +kernel
theorem dX9_reads_22 : decode cX9_reads 22 = .ok (.getfield 198, 3) := by decide +kernel
theorem dX9_reads_25 : decode cX9_reads 25 = .ok (.aload_n 0, 1) := by decide +kernel
theorem dX9_reads_26 : decode cX9_reads 26 = .ok (.getfield 176, 3) := by decide +kernel
theorem dX9_reads_29 : decode cX9_reads 29 = .ok (.if_icmp .ge 27, 3) := by decide +kernel
theorem dX9_reads_32 : decode cX9_reads 32 = .ok (.aload_n 0, 1) := by decide +kernel
theorem dX9_reads_33 : decode cX9_reads 33 = .ok (.aload_n 0, 1) := by decide +kernel
theorem dX9_reads_34 : decode cX9_reads 34 = .ok (.bipush 59, 2) := by decide +kernel
theorem dX9_reads_36 : decode cX9_reads 36 = .ok (.invokevirtual 214, 3) := by decide +kernel
theorem dX9_reads_39 : decode cX9_reads 39 = .ok (.putfield 201, 3) := by decide +kernel
theorem dX9_reads_42 : decode cX9_reads 42 = .ok (.aload_n 0, 1) := by decide +kernel
theorem dX9_reads_43 : decode cX9_reads 43 = .ok (.getfield 201, 3) := by decide +kernel
theorem dX9_reads_46 : decode cX9_reads 46 = .ok (.ifCond .eq (-32), 3) := by decide +kernel
theorem dX9_reads_49 : decode cX9_reads 49 = .ok (.aload_n 0, 1) := by decide +kernel
theorem dX9_reads_50 : decode cX9_reads 50 = .ok (.invokevirtual 217, 3) := by decide +kernel
theorem dX9_reads_53 : decode cX9_reads 53 = .ok (.goto (-39), 3) := by decide +kernel
theorem dX9_reads_56 : decode cX9_reads 56 = .ok (.aload_n 0, 1) := by decide +kernel
theorem dX9_reads_57 : decode cX9_reads 57 = .ok (.getfield 201, 3) := by decide +kernel
theorem dX9_reads_60 : decode cX9_reads 60 = .ok (.ifCond .eq 8, 3) := by decide +kernel
theorem dX9_reads_63 : decode cX9_reads 63 = .ok (.bipush (-6), 2) := by decide +kernel
theorem dX9_reads_65 : decode cX9_reads 65 = .ok (.goto 7, 3) := by decide +kernel
theorem dX9_reads_68 : decode cX9_reads 68 = .ok (.aload_n 0, 1) := by decide +kernel
theorem dX9_reads_69 : decode cX9_reads 69 = .ok (.getfield 198, 3) := by decide +kernel
theorem dX9_reads_72 : decode cX9_reads 72 = .ok (.ireturn, 1) := by decide +kernel
set_option maxRecDepth 20000 in
theorem ggX9_fault_X9_reads : GoodIn wsX9_fault wsX9_reads := goodIn_r _ [6, 7, 8, 9, 10, 11, 12, 13, 5, 14, 15, 16, 17, 18, 19, 20, 21, 22, 23, 24, 25, 26, 27, 28, 29, 30, 31, 32, 33, 34, 35, 36, 37, 38, 39, 40, 41, 42, 43, 44, 45, 46, 47] (by decide +kernel) (by decide +kernel)
set_option maxRecDepth 20000 in
theorem gX9_fault_X9_reads : GoodIn wsX9_fault (wsV RX9 220 RX9 yX9_reads wsX9_reads) := goodIn_app (goodIn_of _ (by decide +kernel)) ggX9_fault_X9_reads
theorem dX9_fault_0 : decode cX9_fault 0 = .ok (.aload_n 0, 1) := by decide +kernel
theorem dX9_fault_1 : decode cX9_fault 1 = .ok (.iconst 0, 1) := by decide +kernel
theorem dX9_fault_2 : decode cX9_fault 2 = .ok (.putfield 41, 3) := by decide +kernel
theorem dX9_fault_5 : decode cX9_fault 5 = .ok (.aload_n 0, 1) := by decide +kernel
theorem dX9_fault_6 : decode cX9_fault 6 = .ok (.invokevirtual 220, 3) := by decide +kernel
theorem dX9_fault_9 : decode cX9_fault 9 = .ok (.ireturn, 1) := by decide +kernel
set_option maxRecDepth 20000 in
theorem ggX9_refuses_X9_refusesPile : GoodIn wsX9_refuses wsX9_refusesPile := goodIn_r _ [6, 7, 8, 9, 5, 10, 60, 61, 62, 63, 64, 65, 66, 67, 68, 69, 70, 71, 72, 73, 74, 75] (by decide +kernel) (by decide +kernel)
set_option maxRecDepth 20000 in
theorem gX9_refuses_X9_refusesPile : GoodIn wsX9_refuses (wsV RX9 126 RX9 yX9_refusesPile wsX9_refusesPile) := goodIn_app (goodIn_of _ (by decide +kernel)) ggX9_refuses_X9_refusesPile
set_option maxRecDepth 20000 in
theorem ggX9_refuses_X9_refusesTake : GoodIn wsX9_refuses wsX9_refusesTake := goodIn_r _ [14, 7, 15, 16, 17, 5, 18, 8, 9, 10, 19, 20, 21, 22, 23, 24, 25, 26, 60, 61, 62, 63, 64, 65, 66, 67, 68, 69, 70, 71, 72, 73, 74, 75] (by decide +kernel) (by decide +kernel)
set_option maxRecDepth 20000 in
theorem gX9_refuses_X9_refusesTake : GoodIn wsX9_refuses (wsV RX9 146 RX9 yX9_refusesTake wsX9_refusesTake) := goodIn_app (goodIn_of _ (by decide +kernel)) ggX9_refuses_X9_refusesTake
set_option maxRecDepth 20000 in
theorem ggX9_refuses_X9_canPass : GoodIn wsX9_refuses wsX9_canPass := goodIn_r _ [30, 31, 32, 33, 5, 34, 7, 35, 36, 37, 38, 39, 40, 41, 23, 24, 25, 26, 42, 43, 44, 45, 46, 47, 48, 49, 19, 20, 21, 22, 8, 9, 10, 50, 51, 52, 60, 61, 62, 63, 64, 65, 66, 67, 68, 69, 70, 71, 72, 73, 74, 75] (by decide +kernel) (by decide +kernel)
set_option maxRecDepth 20000 in
theorem gX9_refuses_X9_canPass : GoodIn wsX9_refuses (wsV RX9 152 RX9 yX9_canPass wsX9_canPass) := goodIn_app (goodIn_of _ (by decide +kernel)) ggX9_refuses_X9_canPass
set_option maxRecDepth 20000 in
theorem ggX9_refuses_X9_isOver : GoodIn wsX9_refuses wsX9_isOver := goodIn_r _ [56, 31, 32, 33, 5, 34, 7, 35, 36, 37, 38, 39, 40, 41, 23, 24, 25, 26, 42, 43, 44, 45, 46, 47, 48, 49, 19, 20, 21, 22, 8, 9, 10, 50, 51, 52, 60, 61, 62, 63, 64, 65, 66, 67, 68, 69, 70, 71, 72, 73, 74, 75] (by decide +kernel) (by decide +kernel)
set_option maxRecDepth 20000 in
theorem gX9_refuses_X9_isOver : GoodIn wsX9_refuses (wsV RX9 112 RX9 yX9_isOver wsX9_isOver) := goodIn_app (goodIn_of _ (by decide +kernel)) ggX9_refuses_X9_isOver
set_option maxRecDepth 20000 in
theorem ggX9_refuses_X9_refusesPasses : GoodIn wsX9_refuses wsX9_refusesPasses := goodIn_r _ [59, 8, 9, 5, 10] (by decide +kernel) (by decide +kernel)
set_option maxRecDepth 20000 in
theorem gX9_refuses_X9_refusesPasses : GoodIn wsX9_refuses (va_wsS RX9 133 yX9_refusesPasses wsX9_refusesPasses) := goodIn_app (goodIn_of _ (by decide +kernel)) ggX9_refuses_X9_refusesPasses
theorem dX9_refuses_0 : decode cX9_refuses 0 = .ok (.aload_n 0, 1) := by decide +kernel
theorem dX9_refuses_1 : decode cX9_refuses 1 = .ok (.getfield 38, 3) := by decide +kernel
theorem dX9_refuses_4 : decode cX9_refuses 4 = .ok (.iload_n 1, 1) := by decide +kernel
theorem dX9_refuses_5 : decode cX9_refuses 5 = .ok (.iconst 1, 1) := by decide +kernel
theorem dX9_refuses_6 : decode cX9_refuses 6 = .ok (.iadd, 1) := by decide +kernel
theorem dX9_refuses_7 : decode cX9_refuses 7 = .ok (.iaload, 1) := by decide +kernel
theorem dX9_refuses_8 : decode cX9_refuses 8 = .ok (.istore_n 2, 1) := by decide +kernel
theorem dX9_refuses_9 : decode cX9_refuses 9 = .ok (.aload_n 0, 1) := by decide +kernel
theorem dX9_refuses_10 : decode cX9_refuses 10 = .ok (.getfield 38, 3) := by decide +kernel
theorem dX9_refuses_13 : decode cX9_refuses 13 = .ok (.iload_n 1, 1) := by decide +kernel
theorem dX9_refuses_14 : decode cX9_refuses 14 = .ok (.iconst 2, 1) := by decide +kernel
theorem dX9_refuses_15 : decode cX9_refuses 15 = .ok (.iadd, 1) := by decide +kernel
theorem dX9_refuses_16 : decode cX9_refuses 16 = .ok (.iaload, 1) := by decide +kernel
theorem dX9_refuses_17 : decode cX9_refuses 17 = .ok (.istore_n 3, 1) := by decide +kernel
theorem dX9_refuses_18 : decode cX9_refuses 18 = .ok (.aload_n 0, 1) := by decide +kernel
theorem dX9_refuses_19 : decode cX9_refuses 19 = .ok (.getfield 38, 3) := by decide +kernel
theorem dX9_refuses_22 : decode cX9_refuses 22 = .ok (.iload_n 1, 1) := by decide +kernel
theorem dX9_refuses_23 : decode cX9_refuses 23 = .ok (.iaload, 1) := by decide +kernel
theorem dX9_refuses_24 : decode cX9_refuses 24 = .ok (.lookupswitch 94 #[(43, 44), (45, 59), (109, 80), (112, 66)], 44) := by decide +kernel
theorem dX9_refuses_68 : decode cX9_refuses 68 = .ok (.aload_n 0, 1) := by decide +kernel
theorem dX9_refuses_69 : decode cX9_refuses 69 = .ok (.iload_n 2, 1) := by decide +kernel
theorem dX9_refuses_70 : decode cX9_refuses 70 = .ok (.iload_n 3, 1) := by decide +kernel
theorem dX9_refuses_71 : decode cX9_refuses 71 = .ok (.aload_n 0, 1) := by decide +kernel
theorem dX9_refuses_72 : decode cX9_refuses 72 = .ok (.getfield 38, 3) := by decide +kernel
theorem dX9_refuses_75 : decode cX9_refuses 75 = .ok (.iload_n 1, 1) := by decide +kernel
theorem dX9_refuses_76 : decode cX9_refuses 76 = .ok (.iconst 3, 1) := by decide +kernel
theorem dX9_refuses_77 : decode cX9_refuses 77 = .ok (.iadd, 1) := by decide +kernel
theorem dX9_refuses_78 : decode cX9_refuses 78 = .ok (.iaload, 1) := by decide +kernel
theorem dX9_refuses_79 : decode cX9_refuses 79 = .ok (.invokevirtual 126, 3) := by decide +kernel
theorem dX9_refuses_82 : decode cX9_refuses 82 = .ok (.ireturn, 1) := by decide +kernel
theorem dX9_refuses_83 : decode cX9_refuses 83 = .ok (.aload_n 0, 1) := by decide +kernel
theorem dX9_refuses_84 : decode cX9_refuses 84 = .ok (.iload_n 2, 1) := by decide +kernel
theorem dX9_refuses_85 : decode cX9_refuses 85 = .ok (.iload_n 3, 1) := by decide +kernel
theorem dX9_refuses_86 : decode cX9_refuses 86 = .ok (.invokevirtual 146, 3) := by decide +kernel
theorem dX9_refuses_89 : decode cX9_refuses 89 = .ok (.ireturn, 1) := by decide +kernel
theorem dX9_refuses_90 : decode cX9_refuses 90 = .ok (.aload_n 0, 1) := by decide +kernel
theorem dX9_refuses_91 : decode cX9_refuses 91 = .ok (.invokevirtual 152, 3) := by decide +kernel
theorem dX9_refuses_94 : decode cX9_refuses 94 = .ok (.ifCond .eq 7, 3) := by decide +kernel
theorem dX9_refuses_97 : decode cX9_refuses 97 = .ok (.iconst 0, 1) := by decide +kernel
theorem dX9_refuses_98 : decode cX9_refuses 98 = .ok (.goto 5, 3) := by decide +kernel
theorem dX9_refuses_101 : decode cX9_refuses 101 = .ok (.bipush (-5), 2) := by decide +kernel
theorem dX9_refuses_103 : decode cX9_refuses 103 = .ok (.ireturn, 1) := by decide +kernel
theorem dX9_refuses_104 : decode cX9_refuses 104 = .ok (.aload_n 0, 1) := by decide +kernel
theorem dX9_refuses_105 : decode cX9_refuses 105 = .ok (.invokevirtual 112, 3) := by decide +kernel
theorem dX9_refuses_108 : decode cX9_refuses 108 = .ok (.ifCond .eq 8, 3) := by decide +kernel
theorem dX9_refuses_111 : decode cX9_refuses 111 = .ok (.bipush (-5), 2) := by decide +kernel
theorem dX9_refuses_113 : decode cX9_refuses 113 = .ok (.goto 4, 3) := by decide +kernel
theorem dX9_refuses_116 : decode cX9_refuses 116 = .ok (.iconst 0, 1) := by decide +kernel
theorem dX9_refuses_117 : decode cX9_refuses 117 = .ok (.ireturn, 1) := by decide +kernel
theorem dX9_refuses_118 : decode cX9_refuses 118 = .ok (.iload_n 2, 1) := by decide +kernel
theorem dX9_refuses_119 : decode cX9_refuses 119 = .ok (.iload_n 3, 1) := by decide +kernel
theorem dX9_refuses_120 : decode cX9_refuses 120 = .ok (.invokestatic 133, 3) := by decide +kernel
theorem dX9_refuses_123 : decode cX9_refuses 123 = .ok (.ireturn, 1) := by decide +kernel
set_option maxRecDepth 20000 in
theorem ggX9_carries_X9_comes : GoodIn wsX9_carries wsX9_comes := goodIn_r _ [6, 7, 8, 9, 10, 5, 11, 109, 110, 111, 112, 113, 114, 115, 116, 117, 118, 119, 120, 121, 122, 123, 124] (by decide +kernel) (by decide +kernel)
set_option maxRecDepth 20000 in
theorem gX9_carries_X9_comes : GoodIn wsX9_carries (wsV RX9 130 RX9 yX9_comes wsX9_comes) := goodIn_app (goodIn_of _ (by decide +kernel)) ggX9_carries_X9_comes
set_option maxRecDepth 20000 in
theorem ggX9_carries_X9_does : GoodIn wsX9_carries wsX9_does := goodIn_r _ [15, 7, 16, 17, 18, 5, 19, 20, 21, 22, 23, 24, 25, 26, 27, 28, 29, 30, 31, 32, 33, 34, 35, 36, 37, 8, 9, 10, 11, 109, 110, 111, 112, 113, 114, 115, 116, 117, 118, 119, 120, 121, 122, 123, 124] (by decide +kernel) (by decide +kernel)
set_option maxRecDepth 20000 in
theorem gX9_carries_X9_does : GoodIn wsX9_carries (wsV RX9 149 RX9 yX9_does wsX9_does) := goodIn_app (goodIn_of _ (by decide +kernel)) ggX9_carries_X9_does
set_option maxRecDepth 20000 in
theorem ggX9_carries_X9_plays : GoodIn wsX9_carries wsX9_plays := goodIn_r _ [41, 42, 43, 44, 5, 45, 46, 47, 48, 49, 35, 36, 37, 28, 29, 30, 20, 21, 22, 23, 7, 50, 51, 52, 53, 54, 55, 56, 57, 58, 59, 60, 61, 62, 63, 64, 65, 66, 67, 68, 69, 70, 71, 72, 73, 74, 16, 17, 18, 19, 31, 32, 33, 34, 75, 76, 77, 78, 79, 80, 81, 82, 83, 84, 85, 86, 87, 88, 89, 90, 91, 92, 24, 25, 26, 27, 93, 94, 95, 96, 97, 98, 99, 100, 101, 102, 103, 104, 12, 13, 14, 15, 8, 9, 10, 11, 109, 110, 111, 112, 113, 114, 115, 116, 117, 118, 119, 120, 121, 122, 123, 124] (by decide +kernel) (by decide +kernel)
set_option maxRecDepth 20000 in
theorem gX9_carries_X9_plays : GoodIn wsX9_carries (wsV RX9 161 RX9 yX9_plays wsX9_plays) := goodIn_app (goodIn_of _ (by decide +kernel)) ggX9_carries_X9_plays
set_option maxRecDepth 20000 in
theorem ggX9_carries_X9_gives : GoodIn wsX9_carries wsX9_gives := goodIn_r _ [108, 7, 109, 110, 111, 112, 113, 114, 115, 116, 117, 118, 119, 120, 121, 122, 123, 124] (by decide +kernel) (by decide +kernel)
set_option maxRecDepth 20000 in
theorem gX9_carries_X9_gives : GoodIn wsX9_carries (wsV RX9 136 RX9 yX9_gives wsX9_gives) := goodIn_app (goodIn_of _ (by decide +kernel)) ggX9_carries_X9_gives
theorem dX9_carries_0 : decode cX9_carries 0 = .ok (.aload_n 0, 1) := by decide +kernel
theorem dX9_carries_1 : decode cX9_carries 1 = .ok (.getfield 38, 3) := by decide +kernel
theorem dX9_carries_4 : decode cX9_carries 4 = .ok (.iload_n 1, 1) := by decide +kernel
theorem dX9_carries_5 : decode cX9_carries 5 = .ok (.iconst 1, 1) := by decide +kernel
theorem dX9_carries_6 : decode cX9_carries 6 = .ok (.iadd, 1) := by decide +kernel
theorem dX9_carries_7 : decode cX9_carries 7 = .ok (.iaload, 1) := by decide +kernel
theorem dX9_carries_8 : decode cX9_carries 8 = .ok (.istore_n 2, 1) := by decide +kernel
theorem dX9_carries_9 : decode cX9_carries 9 = .ok (.aload_n 0, 1) := by decide +kernel
theorem dX9_carries_10 : decode cX9_carries 10 = .ok (.getfield 38, 3) := by decide +kernel
theorem dX9_carries_13 : decode cX9_carries 13 = .ok (.iload_n 1, 1) := by decide +kernel
theorem dX9_carries_14 : decode cX9_carries 14 = .ok (.iconst 2, 1) := by decide +kernel
theorem dX9_carries_15 : decode cX9_carries 15 = .ok (.iadd, 1) := by decide +kernel
theorem dX9_carries_16 : decode cX9_carries 16 = .ok (.iaload, 1) := by decide +kernel
theorem dX9_carries_17 : decode cX9_carries 17 = .ok (.istore_n 3, 1) := by decide +kernel
theorem dX9_carries_18 : decode cX9_carries 18 = .ok (.aload_n 0, 1) := by decide +kernel
theorem dX9_carries_19 : decode cX9_carries 19 = .ok (.getfield 38, 3) := by decide +kernel
theorem dX9_carries_22 : decode cX9_carries 22 = .ok (.iload_n 1, 1) := by decide +kernel
theorem dX9_carries_23 : decode cX9_carries 23 = .ok (.iaload, 1) := by decide +kernel
theorem dX9_carries_24 : decode cX9_carries 24 = .ok (.lookupswitch 94 #[(43, 44), (45, 62), (109, 85), (112, 76)], 44) := by decide +kernel
theorem dX9_carries_68 : decode cX9_carries 68 = .ok (.aload_n 0, 1) := by decide +kernel
theorem dX9_carries_69 : decode cX9_carries 69 = .ok (.iload_n 2, 1) := by decide +kernel
theorem dX9_carries_70 : decode cX9_carries 70 = .ok (.iload_n 3, 1) := by decide +kernel
theorem dX9_carries_71 : decode cX9_carries 71 = .ok (.aload_n 0, 1) := by decide +kernel
theorem dX9_carries_72 : decode cX9_carries 72 = .ok (.getfield 38, 3) := by decide +kernel
theorem dX9_carries_75 : decode cX9_carries 75 = .ok (.iload_n 1, 1) := by decide +kernel
theorem dX9_carries_76 : decode cX9_carries 76 = .ok (.iconst 3, 1) := by decide +kernel
theorem dX9_carries_77 : decode cX9_carries 77 = .ok (.iadd, 1) := by decide +kernel
theorem dX9_carries_78 : decode cX9_carries 78 = .ok (.iaload, 1) := by decide +kernel
theorem dX9_carries_79 : decode cX9_carries 79 = .ok (.invokevirtual 130, 3) := by decide +kernel
theorem dX9_carries_82 : decode cX9_carries 82 = .ok (.pop, 1) := by decide +kernel
theorem dX9_carries_83 : decode cX9_carries 83 = .ok (.goto 41, 3) := by decide +kernel
theorem dX9_carries_86 : decode cX9_carries 86 = .ok (.aload_n 0, 1) := by decide +kernel
theorem dX9_carries_87 : decode cX9_carries 87 = .ok (.iconst 5, 1) := by decide +kernel
theorem dX9_carries_88 : decode cX9_carries 88 = .ok (.iload_n 2, 1) := by decide +kernel
theorem dX9_carries_89 : decode cX9_carries 89 = .ok (.imul, 1) := by decide +kernel
theorem dX9_carries_90 : decode cX9_carries 90 = .ok (.iload_n 3, 1) := by decide +kernel
theorem dX9_carries_91 : decode cX9_carries 91 = .ok (.iadd, 1) := by decide +kernel
theorem dX9_carries_92 : decode cX9_carries 92 = .ok (.iconst 1, 1) := by decide +kernel
theorem dX9_carries_93 : decode cX9_carries 93 = .ok (.isub, 1) := by decide +kernel
theorem dX9_carries_94 : decode cX9_carries 94 = .ok (.invokevirtual 149, 3) := by decide +kernel
theorem dX9_carries_97 : decode cX9_carries 97 = .ok (.goto 27, 3) := by decide +kernel
theorem dX9_carries_100 : decode cX9_carries 100 = .ok (.aload_n 0, 1) := by decide +kernel
theorem dX9_carries_101 : decode cX9_carries 101 = .ok (.bipush 20, 2) := by decide +kernel
theorem dX9_carries_103 : decode cX9_carries 103 = .ok (.invokevirtual 149, 3) := by decide +kernel
theorem dX9_carries_106 : decode cX9_carries 106 = .ok (.goto 18, 3) := by decide +kernel
theorem dX9_carries_109 : decode cX9_carries 109 = .ok (.aload_n 0, 1) := by decide +kernel
theorem dX9_carries_110 : decode cX9_carries 110 = .ok (.iconst 1, 1) := by decide +kernel
theorem dX9_carries_111 : decode cX9_carries 111 = .ok (.invokevirtual 161, 3) := by decide +kernel
theorem dX9_carries_114 : decode cX9_carries 114 = .ok (.pop, 1) := by decide +kernel
theorem dX9_carries_115 : decode cX9_carries 115 = .ok (.goto 9, 3) := by decide +kernel
theorem dX9_carries_118 : decode cX9_carries 118 = .ok (.aload_n 0, 1) := by decide +kernel
theorem dX9_carries_119 : decode cX9_carries 119 = .ok (.iload_n 2, 1) := by decide +kernel
theorem dX9_carries_120 : decode cX9_carries 120 = .ok (.iload_n 3, 1) := by decide +kernel
theorem dX9_carries_121 : decode cX9_carries 121 = .ok (.invokevirtual 136, 3) := by decide +kernel
theorem dX9_carries_124 : decode cX9_carries 124 = .ok (.return_, 1) := by decide +kernel
set_option maxRecDepth 20000 in
theorem ggX9_carryOut_X9_reads : GoodIn wsX9_carryOut wsX9_reads := goodIn_r _ [8, 9, 3, 10, 2, 11, 12, 13, 7, 14, 15, 16, 17, 18, 19, 20, 21, 22, 23, 24, 25, 26, 27, 28, 29, 30, 31, 168, 169, 170, 171, 172, 173, 174, 175, 176, 177, 178, 179, 180, 181, 182, 183] (by decide +kernel) (by decide +kernel)
set_option maxRecDepth 20000 in
theorem gX9_carryOut_X9_reads : GoodIn wsX9_carryOut (wsV RX9 220 RX9 yX9_reads wsX9_reads) := goodIn_app (goodIn_of _ (by decide +kernel)) ggX9_carryOut_X9_reads
set_option maxRecDepth 20000 in
theorem ggX9_carryOut_X9_records : GoodIn wsX9_carryOut wsX9_records := goodIn_r _ [35, 36, 37, 38, 168, 169, 170, 171, 172, 173, 174, 175, 176, 177, 178, 179, 180, 181, 182, 183] (by decide +kernel) (by decide +kernel)
set_option maxRecDepth 20000 in
theorem gX9_carryOut_X9_records : GoodIn wsX9_carryOut (wsV RX9 123 RX9 yX9_records wsX9_records) := goodIn_app (goodIn_of _ (by decide +kernel)) ggX9_carryOut_X9_records
set_option maxRecDepth 20000 in
theorem ggX9_carryOut_X9_refuses : GoodIn wsX9_carryOut wsX9_refuses := goodIn_r _ [42, 15, 43, 44, 45, 7, 46, 38, 25, 26, 27, 47, 48, 49, 50, 51, 52, 53, 54, 55, 56, 57, 58, 59, 60, 61, 62, 63, 64, 65, 66, 67, 68, 69, 70, 71, 72, 73, 74, 75, 76, 77, 78, 79, 80, 81, 82, 83, 84, 85, 86, 87, 88, 89, 90, 91, 92, 93, 94, 95, 168, 169, 170, 171, 172, 173, 174, 175, 176, 177, 178, 179, 180, 181, 182, 183] (by decide +kernel) (by decide +kernel)
set_option maxRecDepth 20000 in
theorem gX9_carryOut_X9_refuses : GoodIn wsX9_carryOut (wsV RX9 223 RX9 yX9_refuses wsX9_refuses) := goodIn_app (goodIn_of _ (by decide +kernel)) ggX9_carryOut_X9_refuses
set_option maxRecDepth 20000 in
theorem ggX9_carryOut_X9_carries : GoodIn wsX9_carryOut wsX9_carries := goodIn_r _ [99, 15, 100, 101, 102, 7, 103, 38, 104, 105, 106, 107, 108, 109, 110, 111, 112, 113, 114, 115, 59, 60, 61, 62, 71, 72, 73, 74, 75, 76, 77, 116, 117, 118, 119, 86, 87, 88, 120, 121, 122, 123, 124, 125, 126, 127, 128, 129, 130, 131, 132, 133, 134, 135, 25, 26, 27, 136, 137, 138, 139, 140, 141, 82, 83, 84, 85, 55, 56, 57, 58, 142, 143, 144, 145, 146, 147, 148, 149, 150, 151, 152, 153, 154, 155, 89, 90, 91, 92, 67, 68, 69, 70, 78, 79, 80, 81, 156, 157, 158, 159, 160, 161, 162, 163, 164, 165, 166, 167, 168, 169, 170, 171, 172, 173, 174, 175, 176, 177, 178, 179, 180, 181, 182, 183] (by decide +kernel) (by decide +kernel)
set_option maxRecDepth 20000 in
theorem gX9_carryOut_X9_carries : GoodIn wsX9_carryOut (wsV RX9 226 RX9 yX9_carries wsX9_carries) := goodIn_app (goodIn_of _ (by decide +kernel)) ggX9_carryOut_X9_carries
theorem dX9_carryOut_0 : decode cX9_carryOut 0 = .ok (.aload_n 0, 1) := by decide +kernel
theorem dX9_carryOut_1 : decode cX9_carryOut 1 = .ok (.iconst 0, 1) := by decide +kernel
theorem dX9_carryOut_2 : decode cX9_carryOut 2 = .ok (.putfield 41, 3) := by decide +kernel
theorem dX9_carryOut_5 : decode cX9_carryOut 5 = .ok (.aload_n 0, 1) := by decide +kernel
theorem dX9_carryOut_6 : decode cX9_carryOut 6 = .ok (.invokevirtual 220, 3) := by decide +kernel
theorem dX9_carryOut_9 : decode cX9_carryOut 9 = .ok (.bipush (-6), 2) := by decide +kernel
theorem dX9_carryOut_11 : decode cX9_carryOut 11 = .ok (.if_icmp .eq 6, 3) := by decide +kernel
theorem dX9_carryOut_14 : decode cX9_carryOut 14 = .ok (.bipush (-3), 2) := by decide +kernel
theorem dX9_carryOut_16 : decode cX9_carryOut 16 = .ok (.ireturn, 1) := by decide +kernel
theorem dX9_carryOut_17 : decode cX9_carryOut 17 = .ok (.aload_n 0, 1) := by decide +kernel
theorem dX9_carryOut_18 : decode cX9_carryOut 18 = .ok (.invokevirtual 123, 3) := by decide +kernel
theorem dX9_carryOut_21 : decode cX9_carryOut 21 = .ok (.aload_n 0, 1) := by decide +kernel
theorem dX9_carryOut_22 : decode cX9_carryOut 22 = .ok (.iconst 0, 1) := by decide +kernel
theorem dX9_carryOut_23 : decode cX9_carryOut 23 = .ok (.putfield 176, 3) := by decide +kernel
theorem dX9_carryOut_26 : decode cX9_carryOut 26 = .ok (.iconst 0, 1) := by decide +kernel
theorem dX9_carryOut_27 : decode cX9_carryOut 27 = .ok (.istore_n 1, 1) := by decide +kernel
theorem dX9_carryOut_28 : decode cX9_carryOut 28 = .ok (.iload_n 1, 1) := by decide +kernel
theorem dX9_carryOut_29 : decode cX9_carryOut 29 = .ok (.aload_n 0, 1) := by decide +kernel
theorem dX9_carryOut_30 : decode cX9_carryOut 30 = .ok (.getfield 208, 3) := by decide +kernel
theorem dX9_carryOut_33 : decode cX9_carryOut 33 = .ok (.if_icmp .ge 28, 3) := by decide +kernel
theorem dX9_carryOut_36 : decode cX9_carryOut 36 = .ok (.aload_n 0, 1) := by decide +kernel
theorem dX9_carryOut_37 : decode cX9_carryOut 37 = .ok (.iconst 4, 1) := by decide +kernel
theorem dX9_carryOut_38 : decode cX9_carryOut 38 = .ok (.iload_n 1, 1) := by decide +kernel
theorem dX9_carryOut_39 : decode cX9_carryOut 39 = .ok (.imul, 1) := by decide +kernel
theorem dX9_carryOut_40 : decode cX9_carryOut 40 = .ok (.invokevirtual 223, 3) := by decide +kernel
theorem dX9_carryOut_43 : decode cX9_carryOut 43 = .ok (.ifCond .eq 5, 3) := by decide +kernel
theorem dX9_carryOut_46 : decode cX9_carryOut 46 = .ok (.iload_n 1, 1) := by decide +kernel
theorem dX9_carryOut_47 : decode cX9_carryOut 47 = .ok (.ireturn, 1) := by decide +kernel
theorem dX9_carryOut_48 : decode cX9_carryOut 48 = .ok (.aload_n 0, 1) := by decide +kernel
theorem dX9_carryOut_49 : decode cX9_carryOut 49 = .ok (.iconst 4, 1) := by decide +kernel
