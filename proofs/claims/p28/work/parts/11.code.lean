set_option maxRecDepth 20000 in
theorem ggX7_winningMoves_X7_spotOf : GoodIn wsX7_winningMoves wsX7_spotOf := goodIn_r _ [5, 6, 7, 8, 4, 9, 10, 11, 12, 13, 14, 15, 16, 17, 18, 19, 20, 21, 22, 23, 24, 25, 26, 27, 28, 29, 30, 31, 32, 33, 34, 63, 64, 65, 66, 67, 68, 69, 70, 71, 72, 73, 74, 75, 76, 77, 78, 79, 80, 81, 82, 83, 84, 85, 86] (by decide +kernel) (by decide +kernel)
set_option maxRecDepth 20000 in
theorem gX7_winningMoves_X7_spotOf : GoodIn wsX7_winningMoves (wsV RX7 29 RX7 yX7_spotOf wsX7_spotOf) := goodIn_app (goodIn_of _ (by decide +kernel)) ggX7_winningMoves_X7_spotOf
set_option maxRecDepth 20000 in
theorem ggX7_winningMoves_X7_movesAt : GoodIn wsX7_winningMoves wsX7_movesAt := goodIn_r _ [38, 39, 14, 40, 27, 41, 79, 80, 81, 82, 83, 84, 85, 86] (by decide +kernel) (by decide +kernel)
set_option maxRecDepth 20000 in
theorem gX7_winningMoves_X7_movesAt : GoodIn wsX7_winningMoves (wsV RX7 37 RX7 yX7_movesAt wsX7_movesAt) := goodIn_app (goodIn_of _ (by decide +kernel)) ggX7_winningMoves_X7_movesAt
set_option maxRecDepth 20000 in
theorem ggX7_winningMoves_X7_poisonAt : GoodIn wsX7_winningMoves wsX7_poisonAt := goodIn_r _ [45, 24, 46, 27, 47, 26, 28, 79, 80, 81, 82, 83, 84, 85, 86] (by decide +kernel) (by decide +kernel)
set_option maxRecDepth 20000 in
theorem gX7_winningMoves_X7_poisonAt : GoodIn wsX7_winningMoves (wsV RX7 41 RX7 yX7_poisonAt wsX7_poisonAt) := goodIn_app (goodIn_of _ (by decide +kernel)) ggX7_winningMoves_X7_poisonAt
set_option maxRecDepth 20000 in
theorem ggX7_winningMoves_X7_turned : GoodIn wsX7_winningMoves wsX7_turned := goodIn_r _ [50] (by decide +kernel) (by decide +kernel)
set_option maxRecDepth 20000 in
theorem gX7_winningMoves_X7_turned : GoodIn wsX7_winningMoves (va_wsS RX7 44 yX7_turned wsX7_turned) := goodIn_app (goodIn_of _ (by decide +kernel)) ggX7_winningMoves_X7_turned
set_option maxRecDepth 20000 in
theorem ggX7_winningMoves_X8_isIn : GoodIn wsX7_winningMoves wsX8_isIn := goodIn_r _ [47] (by decide +kernel) (by decide +kernel)
set_option maxRecDepth 20000 in
theorem gX7_winningMoves_X8_isIn_n47 : GoodIn wsX7_winningMoves (wsX8_isIn) := ggX7_winningMoves_X8_isIn
set_option maxRecDepth 20000 in
theorem ggX7_winningMoves_X7_winsBy : GoodIn wsX7_winningMoves wsX7_winsBy := goodIn_r _ [54, 55, 56, 57, 58, 4, 59, 13, 12, 60, 61, 62, 35, 36, 37, 38, 39, 14, 40, 27, 41, 42, 43, 44, 45, 24, 46, 47, 26, 28, 48, 49, 50, 51, 52, 53, 79, 80, 81, 82, 83, 84, 85, 86] (by decide +kernel) (by decide +kernel)
set_option maxRecDepth 20000 in
theorem gX7_winningMoves_X7_winsBy : GoodIn wsX7_winningMoves (wsV RX7 50 RX7 yX7_winsBy wsX7_winsBy) := goodIn_app (goodIn_of _ (by decide +kernel)) ggX7_winningMoves_X7_winsBy
theorem dX7_winningMoves_0 : decode cX7_winningMoves 0 = .ok (.aload_n 0, 1) := by decide +kernel
theorem dX7_winningMoves_1 : decode cX7_winningMoves 1 = .ok (.aload_n 1, 1) := by decide +kernel
theorem dX7_winningMoves_2 : decode cX7_winningMoves 2 = .ok (.invokevirtual 29, 3) := by decide +kernel
theorem dX7_winningMoves_5 : decode cX7_winningMoves 5 = .ok (.istore_n 2, 1) := by decide +kernel
theorem dX7_winningMoves_6 : decode cX7_winningMoves 6 = .ok (.aload_n 0, 1) := by decide +kernel
theorem dX7_winningMoves_7 : decode cX7_winningMoves 7 = .ok (.iload_n 2, 1) := by decide +kernel
theorem dX7_winningMoves_8 : decode cX7_winningMoves 8 = .ok (.invokevirtual 37, 3) := by decide +kernel
theorem dX7_winningMoves_11 : decode cX7_winningMoves 11 = .ok (.istore_n 3, 1) := by decide +kernel
theorem dX7_winningMoves_12 : decode cX7_winningMoves 12 = .ok (.aload_n 0, 1) := by decide +kernel
theorem dX7_winningMoves_13 : decode cX7_winningMoves 13 = .ok (.iload_n 2, 1) := by decide +kernel
theorem dX7_winningMoves_14 : decode cX7_winningMoves 14 = .ok (.invokevirtual 41, 3) := by decide +kernel
theorem dX7_winningMoves_17 : decode cX7_winningMoves 17 = .ok (.istore 4, 2) := by decide +kernel
theorem dX7_winningMoves_19 : decode cX7_winningMoves 19 = .ok (.iload_n 2, 1) := by decide +kernel
theorem dX7_winningMoves_20 : decode cX7_winningMoves 20 = .ok (.invokestatic 44, 3) := by decide +kernel
theorem dX7_winningMoves_23 : decode cX7_winningMoves 23 = .ok (.istore 5, 2) := by decide +kernel
theorem dX7_winningMoves_25 : decode cX7_winningMoves 25 = .ok (.iconst 0, 1) := by decide +kernel
theorem dX7_winningMoves_26 : decode cX7_winningMoves 26 = .ok (.istore 6, 2) := by decide +kernel
theorem dX7_winningMoves_28 : decode cX7_winningMoves 28 = .ok (.iconst 0, 1) := by decide +kernel
theorem dX7_winningMoves_29 : decode cX7_winningMoves 29 = .ok (.istore 7, 2) := by decide +kernel
theorem dX7_winningMoves_31 : decode cX7_winningMoves 31 = .ok (.iload 7, 2) := by decide +kernel
theorem dX7_winningMoves_33 : decode cX7_winningMoves 33 = .ok (.bipush 20, 2) := by decide +kernel
theorem dX7_winningMoves_35 : decode cX7_winningMoves 35 = .ok (.if_icmp .gt 46, 3) := by decide +kernel
theorem dX7_winningMoves_38 : decode cX7_winningMoves 38 = .ok (.iload_n 3, 1) := by decide +kernel
theorem dX7_winningMoves_39 : decode cX7_winningMoves 39 = .ok (.iload 7, 2) := by decide +kernel
theorem dX7_winningMoves_41 : decode cX7_winningMoves 41 = .ok (.invokestatic 47, 3) := by decide +kernel
theorem dX7_winningMoves_44 : decode cX7_winningMoves 44 = .ok (.ifCond .eq 31, 3) := by decide +kernel
theorem dX7_winningMoves_47 : decode cX7_winningMoves 47 = .ok (.aload_n 0, 1) := by decide +kernel
theorem dX7_winningMoves_48 : decode cX7_winningMoves 48 = .ok (.iload 7, 2) := by decide +kernel
theorem dX7_winningMoves_50 : decode cX7_winningMoves 50 = .ok (.iload 5, 2) := by decide +kernel
theorem dX7_winningMoves_52 : decode cX7_winningMoves 52 = .ok (.iload 4, 2) := by decide +kernel
theorem dX7_winningMoves_54 : decode cX7_winningMoves 54 = .ok (.iload 7, 2) := by decide +kernel
theorem dX7_winningMoves_56 : decode cX7_winningMoves 56 = .ok (.invokestatic 47, 3) := by decide +kernel
theorem dX7_winningMoves_59 : decode cX7_winningMoves 59 = .ok (.iconst 0, 1) := by decide +kernel
theorem dX7_winningMoves_60 : decode cX7_winningMoves 60 = .ok (.invokevirtual 50, 3) := by decide +kernel
theorem dX7_winningMoves_63 : decode cX7_winningMoves 63 = .ok (.ifCond .eq 12, 3) := by decide +kernel
theorem dX7_winningMoves_66 : decode cX7_winningMoves 66 = .ok (.iload 6, 2) := by decide +kernel
theorem dX7_winningMoves_68 : decode cX7_winningMoves 68 = .ok (.iconst 1, 1) := by decide +kernel
theorem dX7_winningMoves_69 : decode cX7_winningMoves 69 = .ok (.iload 7, 2) := by decide +kernel
theorem dX7_winningMoves_71 : decode cX7_winningMoves 71 = .ok (.ishl, 1) := by decide +kernel
theorem dX7_winningMoves_72 : decode cX7_winningMoves 72 = .ok (.ior, 1) := by decide +kernel
theorem dX7_winningMoves_73 : decode cX7_winningMoves 73 = .ok (.istore 6, 2) := by decide +kernel
theorem dX7_winningMoves_75 : decode cX7_winningMoves 75 = .ok (.iinc 7 1, 3) := by decide +kernel
theorem dX7_winningMoves_78 : decode cX7_winningMoves 78 = .ok (.goto (-47), 3) := by decide +kernel
theorem dX7_winningMoves_81 : decode cX7_winningMoves 81 = .ok (.iload 6, 2) := by decide +kernel
theorem dX7_winningMoves_83 : decode cX7_winningMoves 83 = .ok (.ireturn, 1) := by decide +kernel
set_option maxRecDepth 20000 in
theorem ggX7_difference_X7_spotOf : GoodIn wsX7_difference wsX7_spotOf := goodIn_r _ [5, 6, 7, 8, 4, 9, 10, 11, 12, 13, 14, 15, 16, 17, 18, 19, 20, 21, 22, 23, 24, 25, 26, 27, 28, 29, 30, 31, 32, 33, 34, 67, 68, 69, 70, 71, 72, 73, 74, 75, 76, 77, 78, 79, 80, 81, 82, 83, 84, 85, 86, 87, 88, 89, 90] (by decide +kernel) (by decide +kernel)
set_option maxRecDepth 20000 in
theorem gX7_difference_X7_spotOf : GoodIn wsX7_difference (wsV RX7 29 RX7 yX7_spotOf wsX7_spotOf) := goodIn_app (goodIn_of _ (by decide +kernel)) ggX7_difference_X7_spotOf
set_option maxRecDepth 20000 in
theorem ggX7_difference_X7_valueAt : GoodIn wsX7_difference wsX7_valueAt := goodIn_r _ [38, 11, 12, 15, 39, 40, 41, 42, 43, 44, 4, 45, 46, 47, 48, 49, 50, 14, 51, 27, 52, 53, 54, 55, 56, 24, 57, 58, 26, 28, 59, 60, 61, 62, 63, 64, 65, 66, 25, 35, 36, 37, 83, 84, 85, 86, 87, 88, 89, 90] (by decide +kernel) (by decide +kernel)
set_option maxRecDepth 20000 in
theorem gX7_difference_X7_valueAt : GoodIn wsX7_difference (wsV RX7 54 RX7 yX7_valueAt wsX7_valueAt) := goodIn_app (goodIn_of _ (by decide +kernel)) ggX7_difference_X7_valueAt
theorem dX7_difference_0 : decode cX7_difference 0 = .ok (.aload_n 0, 1) := by decide +kernel
theorem dX7_difference_1 : decode cX7_difference 1 = .ok (.aload_n 0, 1) := by decide +kernel
theorem dX7_difference_2 : decode cX7_difference 2 = .ok (.aload_n 1, 1) := by decide +kernel
theorem dX7_difference_3 : decode cX7_difference 3 = .ok (.invokevirtual 29, 3) := by decide +kernel
theorem dX7_difference_6 : decode cX7_difference 6 = .ok (.iconst 0, 1) := by decide +kernel
theorem dX7_difference_7 : decode cX7_difference 7 = .ok (.invokevirtual 54, 3) := by decide +kernel
theorem dX7_difference_10 : decode cX7_difference 10 = .ok (.ireturn, 1) := by decide +kernel
set_option maxRecDepth 20000 in
theorem ggX7_bestMove_X7_spotOf : GoodIn wsX7_bestMove wsX7_spotOf := goodIn_r _ [6, 7, 8, 9, 5, 10, 11, 12, 1, 13, 14, 15, 16, 17, 18, 19, 20, 21, 22, 23, 24, 25, 26, 27, 28, 29, 30, 31, 32, 33, 34, 67, 68, 69, 70, 71, 72, 73, 74, 75, 76, 77, 78, 79, 80, 81, 82, 83, 84, 85, 86, 87, 88, 89, 90] (by decide +kernel) (by decide +kernel)
set_option maxRecDepth 20000 in
theorem gX7_bestMove_X7_spotOf : GoodIn wsX7_bestMove (wsV RX7 29 RX7 yX7_spotOf wsX7_spotOf) := goodIn_app (goodIn_of _ (by decide +kernel)) ggX7_bestMove_X7_spotOf
set_option maxRecDepth 20000 in
theorem ggX7_bestMove_X7_movesAt : GoodIn wsX7_bestMove wsX7_movesAt := goodIn_r _ [38, 39, 14, 40, 27, 41, 83, 84, 85, 86, 87, 88, 89, 90] (by decide +kernel) (by decide +kernel)
set_option maxRecDepth 20000 in
theorem gX7_bestMove_X7_movesAt : GoodIn wsX7_bestMove (wsV RX7 37 RX7 yX7_movesAt wsX7_movesAt) := goodIn_app (goodIn_of _ (by decide +kernel)) ggX7_bestMove_X7_movesAt
set_option maxRecDepth 20000 in
theorem ggX7_bestMove_X7_poisonAt : GoodIn wsX7_bestMove wsX7_poisonAt := goodIn_r _ [45, 24, 46, 27, 47, 26, 28, 83, 84, 85, 86, 87, 88, 89, 90] (by decide +kernel) (by decide +kernel)
set_option maxRecDepth 20000 in
theorem gX7_bestMove_X7_poisonAt : GoodIn wsX7_bestMove (wsV RX7 41 RX7 yX7_poisonAt wsX7_poisonAt) := goodIn_app (goodIn_of _ (by decide +kernel)) ggX7_bestMove_X7_poisonAt
set_option maxRecDepth 20000 in
theorem ggX7_bestMove_X7_turned : GoodIn wsX7_bestMove wsX7_turned := goodIn_r _ [50] (by decide +kernel) (by decide +kernel)
set_option maxRecDepth 20000 in
theorem gX7_bestMove_X7_turned : GoodIn wsX7_bestMove (va_wsS RX7 44 yX7_turned wsX7_turned) := goodIn_app (goodIn_of _ (by decide +kernel)) ggX7_bestMove_X7_turned
set_option maxRecDepth 20000 in
theorem ggX7_bestMove_X8_isIn : GoodIn wsX7_bestMove wsX8_isIn := goodIn_r _ [47] (by decide +kernel) (by decide +kernel)
set_option maxRecDepth 20000 in
theorem gX7_bestMove_X8_isIn_n47 : GoodIn wsX7_bestMove (wsX8_isIn) := ggX7_bestMove_X8_isIn
set_option maxRecDepth 20000 in
theorem ggX7_bestMove_X7_valueBy : GoodIn wsX7_bestMove wsX7_valueBy := goodIn_r _ [54, 55, 25, 1, 15, 56, 57, 58, 5, 59, 12, 60, 61, 62, 63, 64, 65, 66, 35, 36, 37, 38, 39, 14, 40, 27, 41, 42, 43, 44, 45, 24, 46, 47, 26, 28, 48, 49, 50, 51, 52, 53, 83, 84, 85, 86, 87, 88, 89, 90] (by decide +kernel) (by decide +kernel)
set_option maxRecDepth 20000 in
theorem gX7_bestMove_X7_valueBy : GoodIn wsX7_bestMove (wsV RX7 58 RX7 yX7_valueBy wsX7_valueBy) := goodIn_app (goodIn_of _ (by decide +kernel)) ggX7_bestMove_X7_valueBy
theorem dX7_bestMove_0 : decode cX7_bestMove 0 = .ok (.aload_n 0, 1) := by decide +kernel
theorem dX7_bestMove_1 : decode cX7_bestMove 1 = .ok (.aload_n 1, 1) := by decide +kernel
theorem dX7_bestMove_2 : decode cX7_bestMove 2 = .ok (.invokevirtual 29, 3) := by decide +kernel
theorem dX7_bestMove_5 : decode cX7_bestMove 5 = .ok (.istore_n 2, 1) := by decide +kernel
theorem dX7_bestMove_6 : decode cX7_bestMove 6 = .ok (.aload_n 0, 1) := by decide +kernel
theorem dX7_bestMove_7 : decode cX7_bestMove 7 = .ok (.iload_n 2, 1) := by decide +kernel
theorem dX7_bestMove_8 : decode cX7_bestMove 8 = .ok (.invokevirtual 37, 3) := by decide +kernel
theorem dX7_bestMove_11 : decode cX7_bestMove 11 = .ok (.istore_n 3, 1) := by decide +kernel
theorem dX7_bestMove_12 : decode cX7_bestMove 12 = .ok (.aload_n 0, 1) := by decide +kernel
theorem dX7_bestMove_13 : decode cX7_bestMove 13 = .ok (.iload_n 2, 1) := by decide +kernel
theorem dX7_bestMove_14 : decode cX7_bestMove 14 = .ok (.invokevirtual 41, 3) := by decide +kernel
theorem dX7_bestMove_17 : decode cX7_bestMove 17 = .ok (.istore 4, 2) := by decide +kernel
theorem dX7_bestMove_19 : decode cX7_bestMove 19 = .ok (.iload_n 2, 1) := by decide +kernel
theorem dX7_bestMove_20 : decode cX7_bestMove 20 = .ok (.invokestatic 44, 3) := by decide +kernel
theorem dX7_bestMove_23 : decode cX7_bestMove 23 = .ok (.istore 5, 2) := by decide +kernel
theorem dX7_bestMove_25 : decode cX7_bestMove 25 = .ok (.ldc 24, 2) := by decide +kernel
theorem dX7_bestMove_27 : decode cX7_bestMove 27 = .ok (.istore 6, 2) := by decide +kernel
theorem dX7_bestMove_29 : decode cX7_bestMove 29 = .ok (.bipush (-6), 2) := by decide +kernel
theorem dX7_bestMove_31 : decode cX7_bestMove 31 = .ok (.istore 7, 2) := by decide +kernel
theorem dX7_bestMove_33 : decode cX7_bestMove 33 = .ok (.iconst 0, 1) := by decide +kernel
theorem dX7_bestMove_34 : decode cX7_bestMove 34 = .ok (.istore 8, 2) := by decide +kernel
theorem dX7_bestMove_36 : decode cX7_bestMove 36 = .ok (.iload 8, 2) := by decide +kernel
theorem dX7_bestMove_38 : decode cX7_bestMove 38 = .ok (.bipush 20, 2) := by decide +kernel
theorem dX7_bestMove_40 : decode cX7_bestMove 40 = .ok (.if_icmp .gt 51, 3) := by decide +kernel
theorem dX7_bestMove_43 : decode cX7_bestMove 43 = .ok (.iload_n 3, 1) := by decide +kernel
theorem dX7_bestMove_44 : decode cX7_bestMove 44 = .ok (.iload 8, 2) := by decide +kernel
theorem dX7_bestMove_46 : decode cX7_bestMove 46 = .ok (.invokestatic 47, 3) := by decide +kernel
theorem dX7_bestMove_49 : decode cX7_bestMove 49 = .ok (.ifCond .eq 36, 3) := by decide +kernel
theorem dX7_bestMove_52 : decode cX7_bestMove 52 = .ok (.aload_n 0, 1) := by decide +kernel
theorem dX7_bestMove_53 : decode cX7_bestMove 53 = .ok (.iload 8, 2) := by decide +kernel
theorem dX7_bestMove_55 : decode cX7_bestMove 55 = .ok (.iload 5, 2) := by decide +kernel
theorem dX7_bestMove_57 : decode cX7_bestMove 57 = .ok (.iload 4, 2) := by decide +kernel
theorem dX7_bestMove_59 : decode cX7_bestMove 59 = .ok (.iload 8, 2) := by decide +kernel
theorem dX7_bestMove_61 : decode cX7_bestMove 61 = .ok (.invokestatic 47, 3) := by decide +kernel
theorem dX7_bestMove_64 : decode cX7_bestMove 64 = .ok (.iconst 0, 1) := by decide +kernel
theorem dX7_bestMove_65 : decode cX7_bestMove 65 = .ok (.invokevirtual 58, 3) := by decide +kernel
theorem dX7_bestMove_68 : decode cX7_bestMove 68 = .ok (.istore 9, 2) := by decide +kernel
theorem dX7_bestMove_70 : decode cX7_bestMove 70 = .ok (.iload 9, 2) := by decide +kernel
theorem dX7_bestMove_72 : decode cX7_bestMove 72 = .ok (.iload 6, 2) := by decide +kernel
theorem dX7_bestMove_74 : decode cX7_bestMove 74 = .ok (.if_icmp .le 11, 3) := by decide +kernel
theorem dX7_bestMove_77 : decode cX7_bestMove 77 = .ok (.iload 9, 2) := by decide +kernel
theorem dX7_bestMove_79 : decode cX7_bestMove 79 = .ok (.istore 6, 2) := by decide +kernel
theorem dX7_bestMove_81 : decode cX7_bestMove 81 = .ok (.iload 8, 2) := by decide +kernel
theorem dX7_bestMove_83 : decode cX7_bestMove 83 = .ok (.istore 7, 2) := by decide +kernel
theorem dX7_bestMove_85 : decode cX7_bestMove 85 = .ok (.iinc 8 1, 3) := by decide +kernel
theorem dX7_bestMove_88 : decode cX7_bestMove 88 = .ok (.goto (-52), 3) := by decide +kernel
theorem dX7_bestMove_91 : decode cX7_bestMove 91 = .ok (.iload 7, 2) := by decide +kernel
theorem dX7_bestMove_93 : decode cX7_bestMove 93 = .ok (.ireturn, 1) := by decide +kernel
set_option maxRecDepth 20000 in
theorem ggX7_spotOf_X7_learnRules : GoodIn wsX7_spotOf wsX7_learnRules := goodIn_r _ [5, 6, 7, 8, 9, 10, 11, 12, 13, 14, 15, 16, 17, 18, 4, 19, 20, 21, 22, 23, 24, 31, 32, 33, 34, 35, 36, 37, 38, 39, 40, 41, 42, 43, 44, 47, 48, 49, 50, 51, 52, 53, 54] (by decide +kernel) (by decide +kernel)
set_option maxRecDepth 20000 in
theorem gX7_spotOf_X7_learnRules : GoodIn wsX7_spotOf (wsV RX7 62 RX7 yX7_learnRules wsX7_learnRules) := goodIn_app (goodIn_of _ (by decide +kernel)) ggX7_spotOf_X7_learnRules
set_option maxRecDepth 20000 in
theorem ggX7_spotOf_X0_player : GoodIn wsX7_spotOf wsX0_player := goodIn_r _ [28, 29, 30, 31, 32, 33, 34, 35, 36, 37, 38, 39, 40] (by decide +kernel) (by decide +kernel)
set_option maxRecDepth 20000 in
theorem gX7_spotOf_X0_player_n84 : GoodIn wsX7_spotOf (wsX0_player) := ggX7_spotOf_X0_player
theorem dX7_spotOf_0 : decode cX7_spotOf 0 = .ok (.aload_n 0, 1) := by decide +kernel
theorem dX7_spotOf_1 : decode cX7_spotOf 1 = .ok (.aload_n 1, 1) := by decide +kernel
theorem dX7_spotOf_2 : decode cX7_spotOf 2 = .ok (.invokevirtual 62, 3) := by decide +kernel
theorem dX7_spotOf_5 : decode cX7_spotOf 5 = .ok (.iconst 0, 1) := by decide +kernel
theorem dX7_spotOf_6 : decode cX7_spotOf 6 = .ok (.istore_n 2, 1) := by decide +kernel
theorem dX7_spotOf_7 : decode cX7_spotOf 7 = .ok (.aload_n 1, 1) := by decide +kernel
theorem dX7_spotOf_8 : decode cX7_spotOf 8 = .ok (.getfield 66, 3) := by decide +kernel
theorem dX7_spotOf_11 : decode cX7_spotOf 11 = .ok (.arraylength, 1) := by decide +kernel
theorem dX7_spotOf_12 : decode cX7_spotOf 12 = .ok (.iconst 1, 1) := by decide +kernel
theorem dX7_spotOf_13 : decode cX7_spotOf 13 = .ok (.isub, 1) := by decide +kernel
theorem dX7_spotOf_14 : decode cX7_spotOf 14 = .ok (.istore_n 3, 1) := by decide +kernel
theorem dX7_spotOf_15 : decode cX7_spotOf 15 = .ok (.iload_n 3, 1) := by decide +kernel
theorem dX7_spotOf_16 : decode cX7_spotOf 16 = .ok (.ifCond .lt 24, 3) := by decide +kernel
theorem dX7_spotOf_19 : decode cX7_spotOf 19 = .ok (.iload_n 2, 1) := by decide +kernel
theorem dX7_spotOf_20 : decode cX7_spotOf 20 = .ok (.bipush 6, 2) := by decide +kernel
theorem dX7_spotOf_22 : decode cX7_spotOf 22 = .ok (.imul, 1) := by decide +kernel
theorem dX7_spotOf_23 : decode cX7_spotOf 23 = .ok (.aload_n 1, 1) := by decide +kernel
theorem dX7_spotOf_24 : decode cX7_spotOf 24 = .ok (.getfield 66, 3) := by decide +kernel
theorem dX7_spotOf_27 : decode cX7_spotOf 27 = .ok (.iload_n 3, 1) := by decide +kernel
theorem dX7_spotOf_28 : decode cX7_spotOf 28 = .ok (.aaload, 1) := by decide +kernel
theorem dX7_spotOf_29 : decode cX7_spotOf 29 = .ok (.getfield 72, 3) := by decide +kernel
theorem dX7_spotOf_32 : decode cX7_spotOf 32 = .ok (.iadd, 1) := by decide +kernel
theorem dX7_spotOf_33 : decode cX7_spotOf 33 = .ok (.istore_n 2, 1) := by decide +kernel
theorem dX7_spotOf_34 : decode cX7_spotOf 34 = .ok (.iinc 3 (-1), 3) := by decide +kernel
theorem dX7_spotOf_37 : decode cX7_spotOf 37 = .ok (.goto (-22), 3) := by decide +kernel
theorem dX7_spotOf_40 : decode cX7_spotOf 40 = .ok (.aload_n 1, 1) := by decide +kernel
theorem dX7_spotOf_41 : decode cX7_spotOf 41 = .ok (.getfield 77, 3) := by decide +kernel
theorem dX7_spotOf_44 : decode cX7_spotOf 44 = .ok (.ifCond .eq 7, 3) := by decide +kernel
theorem dX7_spotOf_47 : decode cX7_spotOf 47 = .ok (.iconst 0, 1) := by decide +kernel
theorem dX7_spotOf_48 : decode cX7_spotOf 48 = .ok (.goto 4, 3) := by decide +kernel
theorem dX7_spotOf_51 : decode cX7_spotOf 51 = .ok (.iconst 1, 1) := by decide +kernel
theorem dX7_spotOf_52 : decode cX7_spotOf 52 = .ok (.istore_n 3, 1) := by decide +kernel
theorem dX7_spotOf_53 : decode cX7_spotOf 53 = .ok (.aload_n 1, 1) := by decide +kernel
theorem dX7_spotOf_54 : decode cX7_spotOf 54 = .ok (.aload_n 1, 1) := by decide +kernel
theorem dX7_spotOf_55 : decode cX7_spotOf 55 = .ok (.getfield 81, 3) := by decide +kernel
theorem dX7_spotOf_58 : decode cX7_spotOf 58 = .ok (.invokevirtual 84, 3) := by decide +kernel
theorem dX7_spotOf_61 : decode cX7_spotOf 61 = .ok (.getfield 88, 3) := by decide +kernel
theorem dX7_spotOf_64 : decode cX7_spotOf 64 = .ok (.istore 4, 2) := by decide +kernel
theorem dX7_spotOf_66 : decode cX7_spotOf 66 = .ok (.aload_n 1, 1) := by decide +kernel
theorem dX7_spotOf_67 : decode cX7_spotOf 67 = .ok (.iconst 1, 1) := by decide +kernel
theorem dX7_spotOf_68 : decode cX7_spotOf 68 = .ok (.aload_n 1, 1) := by decide +kernel
theorem dX7_spotOf_69 : decode cX7_spotOf 69 = .ok (.getfield 81, 3) := by decide +kernel
theorem dX7_spotOf_72 : decode cX7_spotOf 72 = .ok (.isub, 1) := by decide +kernel
theorem dX7_spotOf_73 : decode cX7_spotOf 73 = .ok (.invokevirtual 84, 3) := by decide +kernel
theorem dX7_spotOf_76 : decode cX7_spotOf 76 = .ok (.getfield 88, 3) := by decide +kernel
theorem dX7_spotOf_79 : decode cX7_spotOf 79 = .ok (.istore 5, 2) := by decide +kernel
theorem dX7_spotOf_81 : decode cX7_spotOf 81 = .ok (.iload_n 2, 1) := by decide +kernel
theorem dX7_spotOf_82 : decode cX7_spotOf 82 = .ok (.bipush 18, 2) := by decide +kernel
theorem dX7_spotOf_84 : decode cX7_spotOf 84 = .ok (.imul, 1) := by decide +kernel
theorem dX7_spotOf_85 : decode cX7_spotOf 85 = .ok (.iload_n 3, 1) := by decide +kernel
theorem dX7_spotOf_86 : decode cX7_spotOf 86 = .ok (.bipush 9, 2) := by decide +kernel
theorem dX7_spotOf_88 : decode cX7_spotOf 88 = .ok (.imul, 1) := by decide +kernel
theorem dX7_spotOf_89 : decode cX7_spotOf 89 = .ok (.iadd, 1) := by decide +kernel
theorem dX7_spotOf_90 : decode cX7_spotOf 90 = .ok (.iload 4, 2) := by decide +kernel
theorem dX7_spotOf_92 : decode cX7_spotOf 92 = .ok (.iconst 3, 1) := by decide +kernel
theorem dX7_spotOf_93 : decode cX7_spotOf 93 = .ok (.imul, 1) := by decide +kernel
theorem dX7_spotOf_94 : decode cX7_spotOf 94 = .ok (.iadd, 1) := by decide +kernel
theorem dX7_spotOf_95 : decode cX7_spotOf 95 = .ok (.iload 5, 2) := by decide +kernel
theorem dX7_spotOf_97 : decode cX7_spotOf 97 = .ok (.iadd, 1) := by decide +kernel
theorem dX7_spotOf_98 : decode cX7_spotOf 98 = .ok (.ireturn, 1) := by decide +kernel
set_option maxRecDepth 20000 in
theorem ggX7_learnRules_J7_fill_53178 : GoodIn wsX7_learnRules wsJ7_fill_53178 := goodIn_r _ [10] (by decide +kernel) (by decide +kernel)
set_option maxRecDepth 20000 in
theorem gX7_learnRules_J7_fill_53178 : GoodIn wsX7_learnRules (va_wsS RX7 105 yJ7_fill_53178 wsJ7_fill_53178) := goodIn_app (goodIn_of _ (by decide +kernel)) ggX7_learnRules_J7_fill_53178
set_option maxRecDepth 20000 in
theorem ggX7_learnRules_X7_learnPiles : GoodIn wsX7_learnRules wsX7_learnPiles := goodIn_r _ [15, 16, 17, 18, 19, 20, 35, 36, 37, 38, 39, 40, 41, 42, 21, 22, 23, 24, 25, 26, 27, 28, 29, 30, 31, 32, 33, 34] (by decide +kernel) (by decide +kernel)
set_option maxRecDepth 20000 in
theorem gX7_learnRules_X7_learnPiles : GoodIn wsX7_learnRules (wsV RX7 113 RX7 yX7_learnPiles wsX7_learnPiles) := goodIn_app (goodIn_of _ (by decide +kernel)) ggX7_learnRules_X7_learnPiles
theorem dX7_learnRules_0 : decode cX7_learnRules 0 = .ok (.aload_n 1, 1) := by decide +kernel
theorem dX7_learnRules_1 : decode cX7_learnRules 1 = .ok (.getfield 93, 3) := by decide +kernel
theorem dX7_learnRules_4 : decode cX7_learnRules 4 = .ok (.bipush 100, 2) := by decide +kernel
theorem dX7_learnRules_6 : decode cX7_learnRules 6 = .ok (.imul, 1) := by decide +kernel
theorem dX7_learnRules_7 : decode cX7_learnRules 7 = .ok (.aload_n 1, 1) := by decide +kernel
theorem dX7_learnRules_8 : decode cX7_learnRules 8 = .ok (.getfield 96, 3) := by decide +kernel
theorem dX7_learnRules_11 : decode cX7_learnRules 11 = .ok (.iadd, 1) := by decide +kernel
theorem dX7_learnRules_12 : decode cX7_learnRules 12 = .ok (.istore_n 2, 1) := by decide +kernel
theorem dX7_learnRules_13 : decode cX7_learnRules 13 = .ok (.aload_n 1, 1) := by decide +kernel
theorem dX7_learnRules_14 : decode cX7_learnRules 14 = .ok (.getfield 66, 3) := by decide +kernel
theorem dX7_learnRules_17 : decode cX7_learnRules 17 = .ok (.astore_n 3, 1) := by decide +kernel
theorem dX7_learnRules_18 : decode cX7_learnRules 18 = .ok (.aload_n 3, 1) := by decide +kernel
theorem dX7_learnRules_19 : decode cX7_learnRules 19 = .ok (.arraylength, 1) := by decide +kernel
theorem dX7_learnRules_20 : decode cX7_learnRules 20 = .ok (.istore 4, 2) := by decide +kernel
theorem dX7_learnRules_22 : decode cX7_learnRules 22 = .ok (.iconst 0, 1) := by decide +kernel
theorem dX7_learnRules_23 : decode cX7_learnRules 23 = .ok (.istore 5, 2) := by decide +kernel
theorem dX7_learnRules_25 : decode cX7_learnRules 25 = .ok (.iload 5, 2) := by decide +kernel
theorem dX7_learnRules_27 : decode cX7_learnRules 27 = .ok (.iload 4, 2) := by decide +kernel
theorem dX7_learnRules_29 : decode cX7_learnRules 29 = .ok (.if_icmp .ge 44, 3) := by decide +kernel
theorem dX7_learnRules_32 : decode cX7_learnRules 32 = .ok (.aload_n 3, 1) := by decide +kernel
theorem dX7_learnRules_33 : decode cX7_learnRules 33 = .ok (.iload 5, 2) := by decide +kernel
theorem dX7_learnRules_35 : decode cX7_learnRules 35 = .ok (.aaload, 1) := by decide +kernel
theorem dX7_learnRules_36 : decode cX7_learnRules 36 = .ok (.astore 6, 2) := by decide +kernel
theorem dX7_learnRules_38 : decode cX7_learnRules 38 = .ok (.iload_n 2, 1) := by decide +kernel
theorem dX7_learnRules_39 : decode cX7_learnRules 39 = .ok (.iconst 2, 1) := by decide +kernel
theorem dX7_learnRules_40 : decode cX7_learnRules 40 = .ok (.imul, 1) := by decide +kernel
theorem dX7_learnRules_41 : decode cX7_learnRules 41 = .ok (.bipush 10, 2) := by decide +kernel
theorem dX7_learnRules_43 : decode cX7_learnRules 43 = .ok (.imul, 1) := by decide +kernel
theorem dX7_learnRules_44 : decode cX7_learnRules 44 = .ok (.iconst 2, 1) := by decide +kernel
theorem dX7_learnRules_45 : decode cX7_learnRules 45 = .ok (.aload 6, 2) := by decide +kernel
theorem dX7_learnRules_47 : decode cX7_learnRules 47 = .ok (.getfield 99, 3) := by decide +kernel
theorem dX7_learnRules_50 : decode cX7_learnRules 50 = .ok (.imul, 1) := by decide +kernel
theorem dX7_learnRules_51 : decode cX7_learnRules 51 = .ok (.iadd, 1) := by decide +kernel
theorem dX7_learnRules_52 : decode cX7_learnRules 52 = .ok (.aload 6, 2) := by decide +kernel
theorem dX7_learnRules_54 : decode cX7_learnRules 54 = .ok (.getfield 102, 3) := by decide +kernel
theorem dX7_learnRules_57 : decode cX7_learnRules 57 = .ok (.ifCond .eq 7, 3) := by decide +kernel
theorem dX7_learnRules_60 : decode cX7_learnRules 60 = .ok (.iconst 1, 1) := by decide +kernel
theorem dX7_learnRules_61 : decode cX7_learnRules 61 = .ok (.goto 4, 3) := by decide +kernel
theorem dX7_learnRules_64 : decode cX7_learnRules 64 = .ok (.iconst 0, 1) := by decide +kernel
theorem dX7_learnRules_65 : decode cX7_learnRules 65 = .ok (.iadd, 1) := by decide +kernel
theorem dX7_learnRules_66 : decode cX7_learnRules 66 = .ok (.istore_n 2, 1) := by decide +kernel
theorem dX7_learnRules_67 : decode cX7_learnRules 67 = .ok (.iinc 5 1, 3) := by decide +kernel
theorem dX7_learnRules_70 : decode cX7_learnRules 70 = .ok (.goto (-45), 3) := by decide +kernel
theorem dX7_learnRules_73 : decode cX7_learnRules 73 = .ok (.iload_n 2, 1) := by decide +kernel
theorem dX7_learnRules_74 : decode cX7_learnRules 74 = .ok (.aload_n 0, 1) := by decide +kernel
theorem dX7_learnRules_75 : decode cX7_learnRules 75 = .ok (.getfield 25, 3) := by decide +kernel
theorem dX7_learnRules_78 : decode cX7_learnRules 78 = .ok (.if_icmp .eq 47, 3) := by decide +kernel
theorem dX7_learnRules_81 : decode cX7_learnRules 81 = .ok (.aload_n 0, 1) := by decide +kernel
theorem dX7_learnRules_82 : decode cX7_learnRules 82 = .ok (.getfield 11, 3) := by decide +kernel
theorem dX7_learnRules_85 : decode cX7_learnRules 85 = .ok (.ldc 24, 2) := by decide +kernel
theorem dX7_learnRules_87 : decode cX7_learnRules 87 = .ok (.invokestatic 105, 3) := by decide +kernel
theorem dX7_learnRules_90 : decode cX7_learnRules 90 = .ok (.aload_n 0, 1) := by decide +kernel
theorem dX7_learnRules_91 : decode cX7_learnRules 91 = .ok (.getfield 15, 3) := by decide +kernel
theorem dX7_learnRules_94 : decode cX7_learnRules 94 = .ok (.ldc 24, 2) := by decide +kernel
theorem dX7_learnRules_96 : decode cX7_learnRules 96 = .ok (.invokestatic 105, 3) := by decide +kernel
theorem dX7_learnRules_99 : decode cX7_learnRules 99 = .ok (.aload_n 0, 1) := by decide +kernel
theorem dX7_learnRules_100 : decode cX7_learnRules 100 = .ok (.aload_n 1, 1) := by decide +kernel
theorem dX7_learnRules_101 : decode cX7_learnRules 101 = .ok (.getfield 93, 3) := by decide +kernel
theorem dX7_learnRules_104 : decode cX7_learnRules 104 = .ok (.putfield 111, 3) := by decide +kernel
theorem dX7_learnRules_107 : decode cX7_learnRules 107 = .ok (.aload_n 0, 1) := by decide +kernel
theorem dX7_learnRules_108 : decode cX7_learnRules 108 = .ok (.aload_n 1, 1) := by decide +kernel
theorem dX7_learnRules_109 : decode cX7_learnRules 109 = .ok (.getfield 96, 3) := by decide +kernel
theorem dX7_learnRules_112 : decode cX7_learnRules 112 = .ok (.putfield 112, 3) := by decide +kernel
theorem dX7_learnRules_115 : decode cX7_learnRules 115 = .ok (.aload_n 0, 1) := by decide +kernel
theorem dX7_learnRules_116 : decode cX7_learnRules 116 = .ok (.aload_n 1, 1) := by decide +kernel
theorem dX7_learnRules_117 : decode cX7_learnRules 117 = .ok (.invokevirtual 113, 3) := by decide +kernel
theorem dX7_learnRules_120 : decode cX7_learnRules 120 = .ok (.aload_n 0, 1) := by decide +kernel
theorem dX7_learnRules_121 : decode cX7_learnRules 121 = .ok (.iload_n 2, 1) := by decide +kernel
theorem dX7_learnRules_122 : decode cX7_learnRules 122 = .ok (.putfield 25, 3) := by decide +kernel
theorem dX7_learnRules_125 : decode cX7_learnRules 125 = .ok (.return_, 1) := by decide +kernel
set_option maxRecDepth 20000 in
theorem ggX7_learnPiles_X8_takeMove : GoodIn wsX7_learnPiles wsX8_takeMove := goodIn_r _ [5] (by decide +kernel) (by decide +kernel)
set_option maxRecDepth 20000 in
theorem gX7_learnPiles_X8_takeMove_n119 : GoodIn wsX7_learnPiles (wsX8_takeMove) := ggX7_learnPiles_X8_takeMove
theorem dX7_learnPiles_0 : decode cX7_learnPiles 0 = .ok (.aload_n 0, 1) := by decide +kernel
theorem dX7_learnPiles_1 : decode cX7_learnPiles 1 = .ok (.iconst 0, 1) := by decide +kernel
theorem dX7_learnPiles_2 : decode cX7_learnPiles 2 = .ok (.putfield 116, 3) := by decide +kernel
theorem dX7_learnPiles_5 : decode cX7_learnPiles 5 = .ok (.iconst 0, 1) := by decide +kernel
theorem dX7_learnPiles_6 : decode cX7_learnPiles 6 = .ok (.istore_n 2, 1) := by decide +kernel
theorem dX7_learnPiles_7 : decode cX7_learnPiles 7 = .ok (.iload_n 2, 1) := by decide +kernel
theorem dX7_learnPiles_8 : decode cX7_learnPiles 8 = .ok (.aload_n 1, 1) := by decide +kernel
theorem dX7_learnPiles_9 : decode cX7_learnPiles 9 = .ok (.getfield 66, 3) := by decide +kernel
theorem dX7_learnPiles_12 : decode cX7_learnPiles 12 = .ok (.arraylength, 1) := by decide +kernel
theorem dX7_learnPiles_13 : decode cX7_learnPiles 13 = .ok (.if_icmp .ge 91, 3) := by decide +kernel
theorem dX7_learnPiles_16 : decode cX7_learnPiles 16 = .ok (.aload_n 1, 1) := by decide +kernel
theorem dX7_learnPiles_17 : decode cX7_learnPiles 17 = .ok (.getfield 66, 3) := by decide +kernel
theorem dX7_learnPiles_20 : decode cX7_learnPiles 20 = .ok (.iload_n 2, 1) := by decide +kernel
theorem dX7_learnPiles_21 : decode cX7_learnPiles 21 = .ok (.aaload, 1) := by decide +kernel
theorem dX7_learnPiles_22 : decode cX7_learnPiles 22 = .ok (.astore_n 3, 1) := by decide +kernel
theorem dX7_learnPiles_23 : decode cX7_learnPiles 23 = .ok (.aload_n 0, 1) := by decide +kernel
theorem dX7_learnPiles_24 : decode cX7_learnPiles 24 = .ok (.dup, 1) := by decide +kernel
theorem dX7_learnPiles_25 : decode cX7_learnPiles 25 = .ok (.getfield 116, 3) := by decide +kernel
theorem dX7_learnPiles_28 : decode cX7_learnPiles 28 = .ok (.aload_n 3, 1) := by decide +kernel
theorem dX7_learnPiles_29 : decode cX7_learnPiles 29 = .ok (.getfield 102, 3) := by decide +kernel
theorem dX7_learnPiles_32 : decode cX7_learnPiles 32 = .ok (.ifCond .eq 9, 3) := by decide +kernel
theorem dX7_learnPiles_35 : decode cX7_learnPiles 35 = .ok (.iconst 1, 1) := by decide +kernel
theorem dX7_learnPiles_36 : decode cX7_learnPiles 36 = .ok (.iload_n 2, 1) := by decide +kernel
theorem dX7_learnPiles_37 : decode cX7_learnPiles 37 = .ok (.ishl, 1) := by decide +kernel
theorem dX7_learnPiles_38 : decode cX7_learnPiles 38 = .ok (.goto 4, 3) := by decide +kernel
theorem dX7_learnPiles_41 : decode cX7_learnPiles 41 = .ok (.iconst 0, 1) := by decide +kernel
theorem dX7_learnPiles_42 : decode cX7_learnPiles 42 = .ok (.ior, 1) := by decide +kernel
theorem dX7_learnPiles_43 : decode cX7_learnPiles 43 = .ok (.putfield 116, 3) := by decide +kernel
theorem dX7_learnPiles_46 : decode cX7_learnPiles 46 = .ok (.iconst 1, 1) := by decide +kernel
theorem dX7_learnPiles_47 : decode cX7_learnPiles 47 = .ok (.istore 4, 2) := by decide +kernel
theorem dX7_learnPiles_49 : decode cX7_learnPiles 49 = .ok (.iload 4, 2) := by decide +kernel
theorem dX7_learnPiles_51 : decode cX7_learnPiles 51 = .ok (.iconst 5, 1) := by decide +kernel
theorem dX7_learnPiles_52 : decode cX7_learnPiles 52 = .ok (.if_icmp .gt 46, 3) := by decide +kernel
theorem dX7_learnPiles_55 : decode cX7_learnPiles 55 = .ok (.iload_n 2, 1) := by decide +kernel
theorem dX7_learnPiles_56 : decode cX7_learnPiles 56 = .ok (.iload 4, 2) := by decide +kernel
theorem dX7_learnPiles_58 : decode cX7_learnPiles 58 = .ok (.invokestatic 119, 3) := by decide +kernel
theorem dX7_learnPiles_61 : decode cX7_learnPiles 61 = .ok (.istore 5, 2) := by decide +kernel
theorem dX7_learnPiles_63 : decode cX7_learnPiles 63 = .ok (.iload 5, 2) := by decide +kernel
theorem dX7_learnPiles_65 : decode cX7_learnPiles 65 = .ok (.ifCond .lt 27, 3) := by decide +kernel
theorem dX7_learnPiles_68 : decode cX7_learnPiles 68 = .ok (.iload 5, 2) := by decide +kernel
theorem dX7_learnPiles_70 : decode cX7_learnPiles 70 = .ok (.aload_n 0, 1) := by decide +kernel
theorem dX7_learnPiles_71 : decode cX7_learnPiles 71 = .ok (.getfield 21, 3) := by decide +kernel
theorem dX7_learnPiles_74 : decode cX7_learnPiles 74 = .ok (.arraylength, 1) := by decide +kernel
theorem dX7_learnPiles_75 : decode cX7_learnPiles 75 = .ok (.if_icmp .ge 17, 3) := by decide +kernel
theorem dX7_learnPiles_78 : decode cX7_learnPiles 78 = .ok (.aload_n 0, 1) := by decide +kernel
theorem dX7_learnPiles_79 : decode cX7_learnPiles 79 = .ok (.getfield 21, 3) := by decide +kernel
theorem dX7_learnPiles_82 : decode cX7_learnPiles 82 = .ok (.iload 5, 2) := by decide +kernel
theorem dX7_learnPiles_84 : decode cX7_learnPiles 84 = .ok (.aload_n 3, 1) := by decide +kernel
theorem dX7_learnPiles_85 : decode cX7_learnPiles 85 = .ok (.getfield 99, 3) := by decide +kernel
theorem dX7_learnPiles_88 : decode cX7_learnPiles 88 = .ok (.iload 4, 2) := by decide +kernel
theorem dX7_learnPiles_90 : decode cX7_learnPiles 90 = .ok (.imul, 1) := by decide +kernel
theorem dX7_learnPiles_91 : decode cX7_learnPiles 91 = .ok (.iastore, 1) := by decide +kernel
theorem dX7_learnPiles_92 : decode cX7_learnPiles 92 = .ok (.iinc 4 1, 3) := by decide +kernel
theorem dX7_learnPiles_95 : decode cX7_learnPiles 95 = .ok (.goto (-46), 3) := by decide +kernel
theorem dX7_learnPiles_98 : decode cX7_learnPiles 98 = .ok (.iinc 2 1, 3) := by decide +kernel
theorem dX7_learnPiles_101 : decode cX7_learnPiles 101 = .ok (.goto (-94), 3) := by decide +kernel
theorem dX7_learnPiles_104 : decode cX7_learnPiles 104 = .ok (.return_, 1) := by decide +kernel
theorem dX7_isSpot_0 : decode cX7_isSpot 0 = .ok (.iload_n 0, 1) := by decide +kernel
theorem dX7_isSpot_1 : decode cX7_isSpot 1 = .ok (.ifCond .lt 20, 3) := by decide +kernel
theorem dX7_isSpot_4 : decode cX7_isSpot 4 = .ok (.iload_n 0, 1) := by decide +kernel
theorem dX7_isSpot_5 : decode cX7_isSpot 5 = .ok (.sipush 23328, 3) := by decide +kernel
theorem dX7_isSpot_8 : decode cX7_isSpot 8 = .ok (.if_icmp .ge 13, 3) := by decide +kernel
theorem dX7_isSpot_11 : decode cX7_isSpot 11 = .ok (.iload_n 1, 1) := by decide +kernel
theorem dX7_isSpot_12 : decode cX7_isSpot 12 = .ok (.bipush 24, 2) := by decide +kernel
theorem dX7_isSpot_14 : decode cX7_isSpot 14 = .ok (.if_icmp .gt 7, 3) := by decide +kernel
theorem dX7_isSpot_17 : decode cX7_isSpot 17 = .ok (.iconst 1, 1) := by decide +kernel
theorem dX7_isSpot_18 : decode cX7_isSpot 18 = .ok (.goto 4, 3) := by decide +kernel
theorem dX7_isSpot_21 : decode cX7_isSpot 21 = .ok (.iconst 0, 1) := by decide +kernel
theorem dX7_isSpot_22 : decode cX7_isSpot 22 = .ok (.ireturn, 1) := by decide +kernel
set_option maxRecDepth 20000 in
theorem ggX7_movesAt_X8_takesOutOf : GoodIn wsX7_movesAt wsX8_takesOutOf := goodIn_r _ [5] (by decide +kernel) (by decide +kernel)
set_option maxRecDepth 20000 in
theorem gX7_movesAt_X8_takesOutOf_n123 : GoodIn wsX7_movesAt (wsX8_takesOutOf) := ggX7_movesAt_X8_takesOutOf
theorem dX7_movesAt_0 : decode cX7_movesAt 0 = .ok (.iload_n 1, 1) := by decide +kernel
theorem dX7_movesAt_1 : decode cX7_movesAt 1 = .ok (.bipush 18, 2) := by decide +kernel
theorem dX7_movesAt_3 : decode cX7_movesAt 3 = .ok (.idiv, 1) := by decide +kernel
theorem dX7_movesAt_4 : decode cX7_movesAt 4 = .ok (.istore_n 2, 1) := by decide +kernel
theorem dX7_movesAt_5 : decode cX7_movesAt 5 = .ok (.iload_n 1, 1) := by decide +kernel
theorem dX7_movesAt_6 : decode cX7_movesAt 6 = .ok (.bipush 9, 2) := by decide +kernel
theorem dX7_movesAt_8 : decode cX7_movesAt 8 = .ok (.idiv, 1) := by decide +kernel
theorem dX7_movesAt_9 : decode cX7_movesAt 9 = .ok (.iconst 2, 1) := by decide +kernel
theorem dX7_movesAt_10 : decode cX7_movesAt 10 = .ok (.irem, 1) := by decide +kernel
theorem dX7_movesAt_11 : decode cX7_movesAt 11 = .ok (.iconst 1, 1) := by decide +kernel
theorem dX7_movesAt_12 : decode cX7_movesAt 12 = .ok (.if_icmp .ne 7, 3) := by decide +kernel
theorem dX7_movesAt_15 : decode cX7_movesAt 15 = .ok (.iconst 1, 1) := by decide +kernel
theorem dX7_movesAt_16 : decode cX7_movesAt 16 = .ok (.goto 4, 3) := by decide +kernel
theorem dX7_movesAt_19 : decode cX7_movesAt 19 = .ok (.iconst 0, 1) := by decide +kernel
theorem dX7_movesAt_20 : decode cX7_movesAt 20 = .ok (.istore_n 3, 1) := by decide +kernel
theorem dX7_movesAt_21 : decode cX7_movesAt 21 = .ok (.iload_n 3, 1) := by decide +kernel
theorem dX7_movesAt_22 : decode cX7_movesAt 22 = .ok (.ifCond .eq 19, 3) := by decide +kernel
theorem dX7_movesAt_25 : decode cX7_movesAt 25 = .ok (.iload_n 2, 1) := by decide +kernel
theorem dX7_movesAt_26 : decode cX7_movesAt 26 = .ok (.ifCond .le 15, 3) := by decide +kernel
theorem dX7_movesAt_29 : decode cX7_movesAt 29 = .ok (.iload_n 1, 1) := by decide +kernel
theorem dX7_movesAt_30 : decode cX7_movesAt 30 = .ok (.iconst 3, 1) := by decide +kernel
theorem dX7_movesAt_31 : decode cX7_movesAt 31 = .ok (.idiv, 1) := by decide +kernel
theorem dX7_movesAt_32 : decode cX7_movesAt 32 = .ok (.iconst 3, 1) := by decide +kernel
theorem dX7_movesAt_33 : decode cX7_movesAt 33 = .ok (.irem, 1) := by decide +kernel
theorem dX7_movesAt_34 : decode cX7_movesAt 34 = .ok (.ifCond .le 7, 3) := by decide +kernel
theorem dX7_movesAt_37 : decode cX7_movesAt 37 = .ok (.iconst 1, 1) := by decide +kernel
theorem dX7_movesAt_38 : decode cX7_movesAt 38 = .ok (.goto 4, 3) := by decide +kernel
theorem dX7_movesAt_41 : decode cX7_movesAt 41 = .ok (.iconst 0, 1) := by decide +kernel
theorem dX7_movesAt_42 : decode cX7_movesAt 42 = .ok (.istore 4, 2) := by decide +kernel
theorem dX7_movesAt_44 : decode cX7_movesAt 44 = .ok (.iload 4, 2) := by decide +kernel
theorem dX7_movesAt_46 : decode cX7_movesAt 46 = .ok (.ifCond .eq 8, 3) := by decide +kernel
theorem dX7_movesAt_49 : decode cX7_movesAt 49 = .ok (.ldc 122, 2) := by decide +kernel
theorem dX7_movesAt_51 : decode cX7_movesAt 51 = .ok (.goto 4, 3) := by decide +kernel
theorem dX7_movesAt_54 : decode cX7_movesAt 54 = .ok (.iconst 0, 1) := by decide +kernel
theorem dX7_movesAt_55 : decode cX7_movesAt 55 = .ok (.istore 5, 2) := by decide +kernel
theorem dX7_movesAt_57 : decode cX7_movesAt 57 = .ok (.iconst 0, 1) := by decide +kernel
theorem dX7_movesAt_58 : decode cX7_movesAt 58 = .ok (.istore 6, 2) := by decide +kernel
theorem dX7_movesAt_60 : decode cX7_movesAt 60 = .ok (.iload 6, 2) := by decide +kernel
theorem dX7_movesAt_62 : decode cX7_movesAt 62 = .ok (.iconst 4, 1) := by decide +kernel
theorem dX7_movesAt_63 : decode cX7_movesAt 63 = .ok (.if_icmp .ge 32, 3) := by decide +kernel
theorem dX7_movesAt_66 : decode cX7_movesAt 66 = .ok (.iload 5, 2) := by decide +kernel
theorem dX7_movesAt_68 : decode cX7_movesAt 68 = .ok (.iload_n 2, 1) := by decide +kernel
theorem dX7_movesAt_69 : decode cX7_movesAt 69 = .ok (.bipush 6, 2) := by decide +kernel
theorem dX7_movesAt_71 : decode cX7_movesAt 71 = .ok (.irem, 1) := by decide +kernel
theorem dX7_movesAt_72 : decode cX7_movesAt 72 = .ok (.aload_n 0, 1) := by decide +kernel
theorem dX7_movesAt_73 : decode cX7_movesAt 73 = .ok (.getfield 111, 3) := by decide +kernel
theorem dX7_movesAt_76 : decode cX7_movesAt 76 = .ok (.iload 6, 2) := by decide +kernel
theorem dX7_movesAt_78 : decode cX7_movesAt 78 = .ok (.invokestatic 123, 3) := by decide +kernel
theorem dX7_movesAt_81 : decode cX7_movesAt 81 = .ok (.ior, 1) := by decide +kernel
theorem dX7_movesAt_82 : decode cX7_movesAt 82 = .ok (.istore 5, 2) := by decide +kernel
theorem dX7_movesAt_84 : decode cX7_movesAt 84 = .ok (.iload_n 2, 1) := by decide +kernel
theorem dX7_movesAt_85 : decode cX7_movesAt 85 = .ok (.bipush 6, 2) := by decide +kernel
theorem dX7_movesAt_87 : decode cX7_movesAt 87 = .ok (.idiv, 1) := by decide +kernel
theorem dX7_movesAt_88 : decode cX7_movesAt 88 = .ok (.istore_n 2, 1) := by decide +kernel
theorem dX7_movesAt_89 : decode cX7_movesAt 89 = .ok (.iinc 6 1, 3) := by decide +kernel
theorem dX7_movesAt_92 : decode cX7_movesAt 92 = .ok (.goto (-32), 3) := by decide +kernel
theorem dX7_movesAt_95 : decode cX7_movesAt 95 = .ok (.iload 5, 2) := by decide +kernel
theorem dX7_movesAt_97 : decode cX7_movesAt 97 = .ok (.ireturn, 1) := by decide +kernel
set_option maxRecDepth 20000 in
theorem ggX7_poisonAt_X8_isIn : GoodIn wsX7_poisonAt wsX8_isIn := goodIn_r _ [4] (by decide +kernel) (by decide +kernel)
set_option maxRecDepth 20000 in
theorem gX7_poisonAt_X8_isIn_n47 : GoodIn wsX7_poisonAt (wsX8_isIn) := ggX7_poisonAt_X8_isIn
set_option maxRecDepth 20000 in
theorem ggX7_poisonAt_X8_takeMove : GoodIn wsX7_poisonAt wsX8_takeMove := goodIn_r _ [6] (by decide +kernel) (by decide +kernel)
set_option maxRecDepth 20000 in
theorem gX7_poisonAt_X8_takeMove_n119 : GoodIn wsX7_poisonAt (wsX8_takeMove) := ggX7_poisonAt_X8_takeMove
theorem dX7_poisonAt_0 : decode cX7_poisonAt 0 = .ok (.iload_n 1, 1) := by decide +kernel
theorem dX7_poisonAt_1 : decode cX7_poisonAt 1 = .ok (.bipush 18, 2) := by decide +kernel
theorem dX7_poisonAt_3 : decode cX7_poisonAt 3 = .ok (.idiv, 1) := by decide +kernel
theorem dX7_poisonAt_4 : decode cX7_poisonAt 4 = .ok (.istore_n 2, 1) := by decide +kernel
theorem dX7_poisonAt_5 : decode cX7_poisonAt 5 = .ok (.iconst 0, 1) := by decide +kernel
theorem dX7_poisonAt_6 : decode cX7_poisonAt 6 = .ok (.istore_n 3, 1) := by decide +kernel
theorem dX7_poisonAt_7 : decode cX7_poisonAt 7 = .ok (.iconst 0, 1) := by decide +kernel
theorem dX7_poisonAt_8 : decode cX7_poisonAt 8 = .ok (.istore 4, 2) := by decide +kernel
theorem dX7_poisonAt_10 : decode cX7_poisonAt 10 = .ok (.iload 4, 2) := by decide +kernel
theorem dX7_poisonAt_12 : decode cX7_poisonAt 12 = .ok (.iconst 4, 1) := by decide +kernel
theorem dX7_poisonAt_13 : decode cX7_poisonAt 13 = .ok (.if_icmp .ge 49, 3) := by decide +kernel
theorem dX7_poisonAt_16 : decode cX7_poisonAt 16 = .ok (.iload_n 2, 1) := by decide +kernel
theorem dX7_poisonAt_17 : decode cX7_poisonAt 17 = .ok (.bipush 6, 2) := by decide +kernel
theorem dX7_poisonAt_19 : decode cX7_poisonAt 19 = .ok (.irem, 1) := by decide +kernel
theorem dX7_poisonAt_20 : decode cX7_poisonAt 20 = .ok (.istore 5, 2) := by decide +kernel
theorem dX7_poisonAt_22 : decode cX7_poisonAt 22 = .ok (.aload_n 0, 1) := by decide +kernel
theorem dX7_poisonAt_23 : decode cX7_poisonAt 23 = .ok (.getfield 116, 3) := by decide +kernel
theorem dX7_poisonAt_26 : decode cX7_poisonAt 26 = .ok (.iload 4, 2) := by decide +kernel
theorem dX7_poisonAt_28 : decode cX7_poisonAt 28 = .ok (.invokestatic 47, 3) := by decide +kernel
theorem dX7_poisonAt_31 : decode cX7_poisonAt 31 = .ok (.ifCond .eq 20, 3) := by decide +kernel
theorem dX7_poisonAt_34 : decode cX7_poisonAt 34 = .ok (.iload 5, 2) := by decide +kernel
theorem dX7_poisonAt_36 : decode cX7_poisonAt 36 = .ok (.ifCond .le 15, 3) := by decide +kernel
theorem dX7_poisonAt_39 : decode cX7_poisonAt 39 = .ok (.iload_n 3, 1) := by decide +kernel
theorem dX7_poisonAt_40 : decode cX7_poisonAt 40 = .ok (.iconst 1, 1) := by decide +kernel
theorem dX7_poisonAt_41 : decode cX7_poisonAt 41 = .ok (.iload 4, 2) := by decide +kernel
theorem dX7_poisonAt_43 : decode cX7_poisonAt 43 = .ok (.iload 5, 2) := by decide +kernel
theorem dX7_poisonAt_45 : decode cX7_poisonAt 45 = .ok (.invokestatic 119, 3) := by decide +kernel
theorem dX7_poisonAt_48 : decode cX7_poisonAt 48 = .ok (.ishl, 1) := by decide +kernel
theorem dX7_poisonAt_49 : decode cX7_poisonAt 49 = .ok (.ior, 1) := by decide +kernel
theorem dX7_poisonAt_50 : decode cX7_poisonAt 50 = .ok (.istore_n 3, 1) := by decide +kernel
theorem dX7_poisonAt_51 : decode cX7_poisonAt 51 = .ok (.iload_n 2, 1) := by decide +kernel
theorem dX7_poisonAt_52 : decode cX7_poisonAt 52 = .ok (.bipush 6, 2) := by decide +kernel
theorem dX7_poisonAt_54 : decode cX7_poisonAt 54 = .ok (.idiv, 1) := by decide +kernel
theorem dX7_poisonAt_55 : decode cX7_poisonAt 55 = .ok (.istore_n 2, 1) := by decide +kernel
theorem dX7_poisonAt_56 : decode cX7_poisonAt 56 = .ok (.iinc 4 1, 3) := by decide +kernel
theorem dX7_poisonAt_59 : decode cX7_poisonAt 59 = .ok (.goto (-49), 3) := by decide +kernel
theorem dX7_poisonAt_62 : decode cX7_poisonAt 62 = .ok (.iload_n 3, 1) := by decide +kernel
theorem dX7_poisonAt_63 : decode cX7_poisonAt 63 = .ok (.ireturn, 1) := by decide +kernel
theorem dX7_turned_0 : decode cX7_turned 0 = .ok (.iload_n 0, 1) := by decide +kernel
theorem dX7_turned_1 : decode cX7_turned 1 = .ok (.iconst 3, 1) := by decide +kernel
theorem dX7_turned_2 : decode cX7_turned 2 = .ok (.idiv, 1) := by decide +kernel
theorem dX7_turned_3 : decode cX7_turned 3 = .ok (.iconst 3, 1) := by decide +kernel
theorem dX7_turned_4 : decode cX7_turned 4 = .ok (.irem, 1) := by decide +kernel
theorem dX7_turned_5 : decode cX7_turned 5 = .ok (.istore_n 1, 1) := by decide +kernel
theorem dX7_turned_6 : decode cX7_turned 6 = .ok (.iload_n 0, 1) := by decide +kernel
theorem dX7_turned_7 : decode cX7_turned 7 = .ok (.iconst 3, 1) := by decide +kernel
theorem dX7_turned_8 : decode cX7_turned 8 = .ok (.irem, 1) := by decide +kernel
theorem dX7_turned_9 : decode cX7_turned 9 = .ok (.istore_n 2, 1) := by decide +kernel
theorem dX7_turned_10 : decode cX7_turned 10 = .ok (.iload_n 0, 1) := by decide +kernel
theorem dX7_turned_11 : decode cX7_turned 11 = .ok (.iload_n 0, 1) := by decide +kernel
theorem dX7_turned_12 : decode cX7_turned 12 = .ok (.bipush 18, 2) := by decide +kernel
theorem dX7_turned_14 : decode cX7_turned 14 = .ok (.irem, 1) := by decide +kernel
theorem dX7_turned_15 : decode cX7_turned 15 = .ok (.isub, 1) := by decide +kernel
theorem dX7_turned_16 : decode cX7_turned 16 = .ok (.bipush 9, 2) := by decide +kernel
theorem dX7_turned_18 : decode cX7_turned 18 = .ok (.iadd, 1) := by decide +kernel
theorem dX7_turned_19 : decode cX7_turned 19 = .ok (.iload_n 2, 1) := by decide +kernel
theorem dX7_turned_20 : decode cX7_turned 20 = .ok (.iconst 3, 1) := by decide +kernel
theorem dX7_turned_21 : decode cX7_turned 21 = .ok (.imul, 1) := by decide +kernel
theorem dX7_turned_22 : decode cX7_turned 22 = .ok (.iadd, 1) := by decide +kernel
theorem dX7_turned_23 : decode cX7_turned 23 = .ok (.iload_n 1, 1) := by decide +kernel
theorem dX7_turned_24 : decode cX7_turned 24 = .ok (.iadd, 1) := by decide +kernel
theorem dX7_turned_25 : decode cX7_turned 25 = .ok (.ireturn, 1) := by decide +kernel
set_option maxRecDepth 20000 in
theorem ggX7_winsBy_X7_wonAt : GoodIn wsX7_winsBy wsX7_wonAt := goodIn_r _ [6, 7, 8, 9, 10, 5, 11, 12, 13, 14, 15, 16, 17, 18, 19, 20, 21, 22, 23, 24, 25, 26, 27, 28, 29, 30, 31, 32, 33, 34, 35, 0, 1, 2, 3, 4, 36, 37, 38, 39, 40, 41, 42, 43] (by decide +kernel) (by decide +kernel)
set_option maxRecDepth 20000 in
theorem gX7_winsBy_X7_wonAt : GoodIn wsX7_winsBy (wsV RX7 33 RX7 yX7_wonAt wsX7_wonAt) := goodIn_app (goodIn_of _ (by decide +kernel)) ggX7_winsBy_X7_wonAt
theorem dX7_winsBy_0 : decode cX7_winsBy 0 = .ok (.iload_n 3, 1) := by decide +kernel
theorem dX7_winsBy_1 : decode cX7_winsBy 1 = .ok (.ifCond .ne 16, 3) := by decide +kernel
theorem dX7_winsBy_4 : decode cX7_winsBy 4 = .ok (.iload_n 1, 1) := by decide +kernel
theorem dX7_winsBy_5 : decode cX7_winsBy 5 = .ok (.ifCond .lt 12, 3) := by decide +kernel
theorem dX7_winsBy_8 : decode cX7_winsBy 8 = .ok (.iload_n 1, 1) := by decide +kernel
theorem dX7_winsBy_9 : decode cX7_winsBy 9 = .ok (.aload_n 0, 1) := by decide +kernel
theorem dX7_winsBy_10 : decode cX7_winsBy 10 = .ok (.getfield 18, 3) := by decide +kernel
theorem dX7_winsBy_13 : decode cX7_winsBy 13 = .ok (.arraylength, 1) := by decide +kernel
theorem dX7_winsBy_14 : decode cX7_winsBy 14 = .ok (.if_icmp .lt 5, 3) := by decide +kernel
theorem dX7_winsBy_17 : decode cX7_winsBy 17 = .ok (.iconst 0, 1) := by decide +kernel
theorem dX7_winsBy_18 : decode cX7_winsBy 18 = .ok (.ireturn, 1) := by decide +kernel
theorem dX7_winsBy_19 : decode cX7_winsBy 19 = .ok (.aload_n 0, 1) := by decide +kernel
theorem dX7_winsBy_20 : decode cX7_winsBy 20 = .ok (.iload_n 2, 1) := by decide +kernel
theorem dX7_winsBy_21 : decode cX7_winsBy 21 = .ok (.aload_n 0, 1) := by decide +kernel
theorem dX7_winsBy_22 : decode cX7_winsBy 22 = .ok (.getfield 18, 3) := by decide +kernel
theorem dX7_winsBy_25 : decode cX7_winsBy 25 = .ok (.iload_n 1, 1) := by decide +kernel
theorem dX7_winsBy_26 : decode cX7_winsBy 26 = .ok (.iaload, 1) := by decide +kernel
theorem dX7_winsBy_27 : decode cX7_winsBy 27 = .ok (.isub, 1) := by decide +kernel
theorem dX7_winsBy_28 : decode cX7_winsBy 28 = .ok (.iload 4, 2) := by decide +kernel
theorem dX7_winsBy_30 : decode cX7_winsBy 30 = .ok (.iconst 1, 1) := by decide +kernel
theorem dX7_winsBy_31 : decode cX7_winsBy 31 = .ok (.iadd, 1) := by decide +kernel
theorem dX7_winsBy_32 : decode cX7_winsBy 32 = .ok (.invokevirtual 33, 3) := by decide +kernel
theorem dX7_winsBy_35 : decode cX7_winsBy 35 = .ok (.ifCond .ne 7, 3) := by decide +kernel
theorem dX7_winsBy_38 : decode cX7_winsBy 38 = .ok (.iconst 1, 1) := by decide +kernel
theorem dX7_winsBy_39 : decode cX7_winsBy 39 = .ok (.goto 4, 3) := by decide +kernel
theorem dX7_winsBy_42 : decode cX7_winsBy 42 = .ok (.iconst 0, 1) := by decide +kernel
theorem dX7_winsBy_43 : decode cX7_winsBy 43 = .ok (.ireturn, 1) := by decide +kernel
set_option maxRecDepth 20000 in
theorem ggX7_wonAt_X7_isSpot : GoodIn wsX7_wonAt wsX7_isSpot := goodIn_r _ [6] (by decide +kernel) (by decide +kernel)
set_option maxRecDepth 20000 in
theorem gX7_wonAt_X7_isSpot : GoodIn wsX7_wonAt (va_wsS RX7 127 yX7_isSpot wsX7_isSpot) := goodIn_app (goodIn_of _ (by decide +kernel)) ggX7_wonAt_X7_isSpot
set_option maxRecDepth 20000 in
theorem ggX7_wonAt_X7_movesAt : GoodIn wsX7_wonAt wsX7_movesAt := goodIn_r _ [10, 11, 12, 13, 14, 15, 36, 37, 38, 39, 40, 41, 42, 43] (by decide +kernel) (by decide +kernel)
set_option maxRecDepth 20000 in
theorem gX7_wonAt_X7_movesAt : GoodIn wsX7_wonAt (wsV RX7 37 RX7 yX7_movesAt wsX7_movesAt) := goodIn_app (goodIn_of _ (by decide +kernel)) ggX7_wonAt_X7_movesAt
set_option maxRecDepth 20000 in
theorem ggX7_wonAt_X7_poisonAt : GoodIn wsX7_wonAt wsX7_poisonAt := goodIn_r _ [19, 20, 21, 14, 22, 23, 24, 36, 37, 38, 39, 40, 41, 42, 43] (by decide +kernel) (by decide +kernel)
set_option maxRecDepth 20000 in
theorem gX7_wonAt_X7_poisonAt : GoodIn wsX7_wonAt (wsV RX7 41 RX7 yX7_poisonAt wsX7_poisonAt) := goodIn_app (goodIn_of _ (by decide +kernel)) ggX7_wonAt_X7_poisonAt
set_option maxRecDepth 20000 in
theorem ggX7_wonAt_X7_turned : GoodIn wsX7_wonAt wsX7_turned := goodIn_r _ [27] (by decide +kernel) (by decide +kernel)
set_option maxRecDepth 20000 in
theorem gX7_wonAt_X7_turned : GoodIn wsX7_wonAt (va_wsS RX7 44 yX7_turned wsX7_turned) := goodIn_app (goodIn_of _ (by decide +kernel)) ggX7_wonAt_X7_turned
set_option maxRecDepth 20000 in
theorem ggX7_wonAt_X8_isIn : GoodIn wsX7_wonAt wsX8_isIn := goodIn_r _ [22] (by decide +kernel) (by decide +kernel)
set_option maxRecDepth 20000 in
theorem gX7_wonAt_X8_isIn_n47 : GoodIn wsX7_wonAt (wsX8_isIn) := ggX7_wonAt_X8_isIn
set_option maxRecDepth 20000 in
theorem ggX7_wonAt_X7_winsBy : GoodIn wsX7_wonAt wsX7_winsBy := goodIn_r _ [31, 32, 33, 34, 35, 5, 0, 1, 2, 3, 4, 6, 7, 8, 9, 10, 11, 12, 13, 14, 15, 16, 17, 18, 19, 20, 21, 22, 23, 24, 25, 26, 27, 28, 29, 30, 36, 37, 38, 39, 40, 41, 42, 43] (by decide +kernel) (by decide +kernel)
set_option maxRecDepth 20000 in
theorem gX7_wonAt_X7_winsBy : GoodIn wsX7_wonAt (wsV RX7 50 RX7 yX7_winsBy wsX7_winsBy) := goodIn_app (goodIn_of _ (by decide +kernel)) ggX7_wonAt_X7_winsBy
theorem dX7_wonAt_0 : decode cX7_wonAt 0 = .ok (.iload_n 1, 1) := by decide +kernel
theorem dX7_wonAt_1 : decode cX7_wonAt 1 = .ok (.iload_n 2, 1) := by decide +kernel
theorem dX7_wonAt_2 : decode cX7_wonAt 2 = .ok (.invokestatic 127, 3) := by decide +kernel
theorem dX7_wonAt_5 : decode cX7_wonAt 5 = .ok (.ifCond .ne 5, 3) := by decide +kernel
theorem dX7_wonAt_8 : decode cX7_wonAt 8 = .ok (.iconst 0, 1) := by decide +kernel
theorem dX7_wonAt_9 : decode cX7_wonAt 9 = .ok (.ireturn, 1) := by decide +kernel
theorem dX7_wonAt_10 : decode cX7_wonAt 10 = .ok (.aload_n 0, 1) := by decide +kernel
theorem dX7_wonAt_11 : decode cX7_wonAt 11 = .ok (.getfield 15, 3) := by decide +kernel
theorem dX7_wonAt_14 : decode cX7_wonAt 14 = .ok (.iload_n 1, 1) := by decide +kernel
theorem dX7_wonAt_15 : decode cX7_wonAt 15 = .ok (.iaload, 1) := by decide +kernel
theorem dX7_wonAt_16 : decode cX7_wonAt 16 = .ok (.ldc 24, 2) := by decide +kernel
theorem dX7_wonAt_18 : decode cX7_wonAt 18 = .ok (.if_icmp .ne 85, 3) := by decide +kernel
theorem dX7_wonAt_21 : decode cX7_wonAt 21 = .ok (.aload_n 0, 1) := by decide +kernel
theorem dX7_wonAt_22 : decode cX7_wonAt 22 = .ok (.iload_n 1, 1) := by decide +kernel
theorem dX7_wonAt_23 : decode cX7_wonAt 23 = .ok (.invokevirtual 37, 3) := by decide +kernel
theorem dX7_wonAt_26 : decode cX7_wonAt 26 = .ok (.istore_n 3, 1) := by decide +kernel
theorem dX7_wonAt_27 : decode cX7_wonAt 27 = .ok (.aload_n 0, 1) := by decide +kernel
theorem dX7_wonAt_28 : decode cX7_wonAt 28 = .ok (.iload_n 1, 1) := by decide +kernel
theorem dX7_wonAt_29 : decode cX7_wonAt 29 = .ok (.invokevirtual 41, 3) := by decide +kernel
theorem dX7_wonAt_32 : decode cX7_wonAt 32 = .ok (.istore 4, 2) := by decide +kernel
theorem dX7_wonAt_34 : decode cX7_wonAt 34 = .ok (.iload_n 1, 1) := by decide +kernel
theorem dX7_wonAt_35 : decode cX7_wonAt 35 = .ok (.invokestatic 44, 3) := by decide +kernel
theorem dX7_wonAt_38 : decode cX7_wonAt 38 = .ok (.istore 5, 2) := by decide +kernel
theorem dX7_wonAt_40 : decode cX7_wonAt 40 = .ok (.iconst 0, 1) := by decide +kernel
theorem dX7_wonAt_41 : decode cX7_wonAt 41 = .ok (.istore 6, 2) := by decide +kernel
theorem dX7_wonAt_43 : decode cX7_wonAt 43 = .ok (.iconst 0, 1) := by decide +kernel
theorem dX7_wonAt_44 : decode cX7_wonAt 44 = .ok (.istore 7, 2) := by decide +kernel
theorem dX7_wonAt_46 : decode cX7_wonAt 46 = .ok (.iload 7, 2) := by decide +kernel
theorem dX7_wonAt_48 : decode cX7_wonAt 48 = .ok (.bipush 20, 2) := by decide +kernel
theorem dX7_wonAt_50 : decode cX7_wonAt 50 = .ok (.if_icmp .gt 45, 3) := by decide +kernel
theorem dX7_wonAt_53 : decode cX7_wonAt 53 = .ok (.iload 6, 2) := by decide +kernel
theorem dX7_wonAt_55 : decode cX7_wonAt 55 = .ok (.ifCond .ne 40, 3) := by decide +kernel
theorem dX7_wonAt_58 : decode cX7_wonAt 58 = .ok (.iload_n 3, 1) := by decide +kernel
theorem dX7_wonAt_59 : decode cX7_wonAt 59 = .ok (.iload 7, 2) := by decide +kernel
theorem dX7_wonAt_61 : decode cX7_wonAt 61 = .ok (.invokestatic 47, 3) := by decide +kernel
theorem dX7_wonAt_64 : decode cX7_wonAt 64 = .ok (.ifCond .eq 25, 3) := by decide +kernel
theorem dX7_wonAt_67 : decode cX7_wonAt 67 = .ok (.aload_n 0, 1) := by decide +kernel
theorem dX7_wonAt_68 : decode cX7_wonAt 68 = .ok (.iload 7, 2) := by decide +kernel
theorem dX7_wonAt_70 : decode cX7_wonAt 70 = .ok (.iload 5, 2) := by decide +kernel
theorem dX7_wonAt_72 : decode cX7_wonAt 72 = .ok (.iload 4, 2) := by decide +kernel
theorem dX7_wonAt_74 : decode cX7_wonAt 74 = .ok (.iload 7, 2) := by decide +kernel
theorem dX7_wonAt_76 : decode cX7_wonAt 76 = .ok (.invokestatic 47, 3) := by decide +kernel
theorem dX7_wonAt_79 : decode cX7_wonAt 79 = .ok (.iload_n 2, 1) := by decide +kernel
theorem dX7_wonAt_80 : decode cX7_wonAt 80 = .ok (.invokevirtual 50, 3) := by decide +kernel
theorem dX7_wonAt_83 : decode cX7_wonAt 83 = .ok (.ifCond .eq 6, 3) := by decide +kernel
theorem dX7_wonAt_86 : decode cX7_wonAt 86 = .ok (.iconst 1, 1) := by decide +kernel
theorem dX7_wonAt_87 : decode cX7_wonAt 87 = .ok (.istore 6, 2) := by decide +kernel
theorem dX7_wonAt_89 : decode cX7_wonAt 89 = .ok (.iinc 7 1, 3) := by decide +kernel
theorem dX7_wonAt_92 : decode cX7_wonAt 92 = .ok (.goto (-46), 3) := by decide +kernel
theorem dX7_wonAt_95 : decode cX7_wonAt 95 = .ok (.aload_n 0, 1) := by decide +kernel
theorem dX7_wonAt_96 : decode cX7_wonAt 96 = .ok (.getfield 15, 3) := by decide +kernel
theorem dX7_wonAt_99 : decode cX7_wonAt 99 = .ok (.iload_n 1, 1) := by decide +kernel
theorem dX7_wonAt_100 : decode cX7_wonAt 100 = .ok (.iload 6, 2) := by decide +kernel
theorem dX7_wonAt_102 : decode cX7_wonAt 102 = .ok (.iastore, 1) := by decide +kernel
theorem dX7_wonAt_103 : decode cX7_wonAt 103 = .ok (.aload_n 0, 1) := by decide +kernel
theorem dX7_wonAt_104 : decode cX7_wonAt 104 = .ok (.getfield 15, 3) := by decide +kernel
theorem dX7_wonAt_107 : decode cX7_wonAt 107 = .ok (.iload_n 1, 1) := by decide +kernel
theorem dX7_wonAt_108 : decode cX7_wonAt 108 = .ok (.iaload, 1) := by decide +kernel
theorem dX7_wonAt_109 : decode cX7_wonAt 109 = .ok (.iconst 1, 1) := by decide +kernel
theorem dX7_wonAt_110 : decode cX7_wonAt 110 = .ok (.if_icmp .ne 7, 3) := by decide +kernel
theorem dX7_wonAt_113 : decode cX7_wonAt 113 = .ok (.iconst 1, 1) := by decide +kernel
theorem dX7_wonAt_114 : decode cX7_wonAt 114 = .ok (.goto 4, 3) := by decide +kernel
theorem dX7_wonAt_117 : decode cX7_wonAt 117 = .ok (.iconst 0, 1) := by decide +kernel
theorem dX7_wonAt_118 : decode cX7_wonAt 118 = .ok (.ireturn, 1) := by decide +kernel
set_option maxRecDepth 20000 in
theorem ggX7_valueBy_X7_valueAt : GoodIn wsX7_valueBy wsX7_valueAt := goodIn_r _ [9, 10, 3, 4, 11, 12, 13, 14, 15, 16, 8, 17, 18, 19, 20, 21, 22, 23, 24, 25, 26, 27, 28, 29, 30, 31, 32, 33, 34, 35, 36, 37, 38, 39, 40, 41, 0, 1, 2, 5, 6, 7, 42, 43, 44, 45, 46, 47, 48, 49] (by decide +kernel) (by decide +kernel)
set_option maxRecDepth 20000 in
theorem gX7_valueBy_X7_valueAt : GoodIn wsX7_valueBy (wsV RX7 54 RX7 yX7_valueAt wsX7_valueAt) := goodIn_app (goodIn_of _ (by decide +kernel)) ggX7_valueBy_X7_valueAt
theorem dX7_valueBy_0 : decode cX7_valueBy 0 = .ok (.iload_n 1, 1) := by decide +kernel
theorem dX7_valueBy_1 : decode cX7_valueBy 1 = .ok (.ifCond .lt 21, 3) := by decide +kernel
theorem dX7_valueBy_4 : decode cX7_valueBy 4 = .ok (.iload_n 1, 1) := by decide +kernel
theorem dX7_valueBy_5 : decode cX7_valueBy 5 = .ok (.aload_n 0, 1) := by decide +kernel
theorem dX7_valueBy_6 : decode cX7_valueBy 6 = .ok (.getfield 18, 3) := by decide +kernel
theorem dX7_valueBy_9 : decode cX7_valueBy 9 = .ok (.arraylength, 1) := by decide +kernel
theorem dX7_valueBy_10 : decode cX7_valueBy 10 = .ok (.if_icmp .ge 12, 3) := by decide +kernel
theorem dX7_valueBy_13 : decode cX7_valueBy 13 = .ok (.iload_n 1, 1) := by decide +kernel
theorem dX7_valueBy_14 : decode cX7_valueBy 14 = .ok (.aload_n 0, 1) := by decide +kernel
theorem dX7_valueBy_15 : decode cX7_valueBy 15 = .ok (.getfield 21, 3) := by decide +kernel
theorem dX7_valueBy_18 : decode cX7_valueBy 18 = .ok (.arraylength, 1) := by decide +kernel
theorem dX7_valueBy_19 : decode cX7_valueBy 19 = .ok (.if_icmp .lt 6, 3) := by decide +kernel
theorem dX7_valueBy_22 : decode cX7_valueBy 22 = .ok (.ldc 24, 2) := by decide +kernel
theorem dX7_valueBy_24 : decode cX7_valueBy 24 = .ok (.ireturn, 1) := by decide +kernel
theorem dX7_valueBy_25 : decode cX7_valueBy 25 = .ok (.iload_n 3, 1) := by decide +kernel
theorem dX7_valueBy_26 : decode cX7_valueBy 26 = .ok (.ifCond .eq 15, 3) := by decide +kernel
theorem dX7_valueBy_29 : decode cX7_valueBy 29 = .ok (.aload_n 0, 1) := by decide +kernel
theorem dX7_valueBy_30 : decode cX7_valueBy 30 = .ok (.getfield 21, 3) := by decide +kernel
theorem dX7_valueBy_33 : decode cX7_valueBy 33 = .ok (.iload_n 1, 1) := by decide +kernel
theorem dX7_valueBy_34 : decode cX7_valueBy 34 = .ok (.iaload, 1) := by decide +kernel
theorem dX7_valueBy_35 : decode cX7_valueBy 35 = .ok (.aload_n 0, 1) := by decide +kernel
theorem dX7_valueBy_36 : decode cX7_valueBy 36 = .ok (.getfield 112, 3) := by decide +kernel
theorem dX7_valueBy_39 : decode cX7_valueBy 39 = .ok (.isub, 1) := by decide +kernel
theorem dX7_valueBy_40 : decode cX7_valueBy 40 = .ok (.ireturn, 1) := by decide +kernel
theorem dX7_valueBy_41 : decode cX7_valueBy 41 = .ok (.aload_n 0, 1) := by decide +kernel
theorem dX7_valueBy_42 : decode cX7_valueBy 42 = .ok (.getfield 21, 3) := by decide +kernel
theorem dX7_valueBy_45 : decode cX7_valueBy 45 = .ok (.iload_n 1, 1) := by decide +kernel
theorem dX7_valueBy_46 : decode cX7_valueBy 46 = .ok (.iaload, 1) := by decide +kernel
theorem dX7_valueBy_47 : decode cX7_valueBy 47 = .ok (.aload_n 0, 1) := by decide +kernel
theorem dX7_valueBy_48 : decode cX7_valueBy 48 = .ok (.iload_n 2, 1) := by decide +kernel
theorem dX7_valueBy_49 : decode cX7_valueBy 49 = .ok (.aload_n 0, 1) := by decide +kernel
theorem dX7_valueBy_50 : decode cX7_valueBy 50 = .ok (.getfield 18, 3) := by decide +kernel
theorem dX7_valueBy_53 : decode cX7_valueBy 53 = .ok (.iload_n 1, 1) := by decide +kernel
theorem dX7_valueBy_54 : decode cX7_valueBy 54 = .ok (.iaload, 1) := by decide +kernel
theorem dX7_valueBy_55 : decode cX7_valueBy 55 = .ok (.isub, 1) := by decide +kernel
theorem dX7_valueBy_56 : decode cX7_valueBy 56 = .ok (.iload 4, 2) := by decide +kernel
theorem dX7_valueBy_58 : decode cX7_valueBy 58 = .ok (.iconst 1, 1) := by decide +kernel
theorem dX7_valueBy_59 : decode cX7_valueBy 59 = .ok (.iadd, 1) := by decide +kernel
theorem dX7_valueBy_60 : decode cX7_valueBy 60 = .ok (.invokevirtual 54, 3) := by decide +kernel
theorem dX7_valueBy_63 : decode cX7_valueBy 63 = .ok (.isub, 1) := by decide +kernel
theorem dX7_valueBy_64 : decode cX7_valueBy 64 = .ok (.ireturn, 1) := by decide +kernel
set_option maxRecDepth 20000 in
theorem ggX7_valueAt_X7_isSpot : GoodIn wsX7_valueAt wsX7_isSpot := goodIn_r _ [11] (by decide +kernel) (by decide +kernel)
set_option maxRecDepth 20000 in
theorem gX7_valueAt_X7_isSpot : GoodIn wsX7_valueAt (va_wsS RX7 127 yX7_isSpot wsX7_isSpot) := goodIn_app (goodIn_of _ (by decide +kernel)) ggX7_valueAt_X7_isSpot
set_option maxRecDepth 20000 in
theorem ggX7_valueAt_X7_movesAt : GoodIn wsX7_valueAt wsX7_movesAt := goodIn_r _ [15, 16, 17, 18, 19, 20, 42, 43, 44, 45, 46, 47, 48, 49] (by decide +kernel) (by decide +kernel)
set_option maxRecDepth 20000 in
theorem gX7_valueAt_X7_movesAt : GoodIn wsX7_valueAt (wsV RX7 37 RX7 yX7_movesAt wsX7_movesAt) := goodIn_app (goodIn_of _ (by decide +kernel)) ggX7_valueAt_X7_movesAt
set_option maxRecDepth 20000 in
theorem ggX7_valueAt_X7_poisonAt : GoodIn wsX7_valueAt wsX7_poisonAt := goodIn_r _ [24, 25, 26, 19, 27, 28, 29, 42, 43, 44, 45, 46, 47, 48, 49] (by decide +kernel) (by decide +kernel)
set_option maxRecDepth 20000 in
theorem gX7_valueAt_X7_poisonAt : GoodIn wsX7_valueAt (wsV RX7 41 RX7 yX7_poisonAt wsX7_poisonAt) := goodIn_app (goodIn_of _ (by decide +kernel)) ggX7_valueAt_X7_poisonAt
set_option maxRecDepth 20000 in
theorem ggX7_valueAt_X7_turned : GoodIn wsX7_valueAt wsX7_turned := goodIn_r _ [32] (by decide +kernel) (by decide +kernel)
set_option maxRecDepth 20000 in
theorem gX7_valueAt_X7_turned : GoodIn wsX7_valueAt (va_wsS RX7 44 yX7_turned wsX7_turned) := goodIn_app (goodIn_of _ (by decide +kernel)) ggX7_valueAt_X7_turned
set_option maxRecDepth 20000 in
theorem ggX7_valueAt_X8_isIn : GoodIn wsX7_valueAt wsX8_isIn := goodIn_r _ [27] (by decide +kernel) (by decide +kernel)
set_option maxRecDepth 20000 in
theorem gX7_valueAt_X8_isIn_n47 : GoodIn wsX7_valueAt (wsX8_isIn) := ggX7_valueAt_X8_isIn
set_option maxRecDepth 20000 in
theorem ggX7_valueAt_X7_valueBy : GoodIn wsX7_valueAt wsX7_valueBy := goodIn_r _ [36, 37, 38, 2, 3, 39, 40, 41, 10, 0, 1, 4, 5, 6, 7, 8, 9, 11, 12, 13, 14, 15, 16, 17, 18, 19, 20, 21, 22, 23, 24, 25, 26, 27, 28, 29, 30, 31, 32, 33, 34, 35, 42, 43, 44, 45, 46, 47, 48, 49] (by decide +kernel) (by decide +kernel)
set_option maxRecDepth 20000 in
theorem gX7_valueAt_X7_valueBy : GoodIn wsX7_valueAt (wsV RX7 58 RX7 yX7_valueBy wsX7_valueBy) := goodIn_app (goodIn_of _ (by decide +kernel)) ggX7_valueAt_X7_valueBy
theorem dX7_valueAt_0 : decode cX7_valueAt 0 = .ok (.iload_n 1, 1) := by decide +kernel
theorem dX7_valueAt_1 : decode cX7_valueAt 1 = .ok (.iload_n 2, 1) := by decide +kernel
theorem dX7_valueAt_2 : decode cX7_valueAt 2 = .ok (.invokestatic 127, 3) := by decide +kernel
theorem dX7_valueAt_5 : decode cX7_valueAt 5 = .ok (.ifCond .ne 5, 3) := by decide +kernel
theorem dX7_valueAt_8 : decode cX7_valueAt 8 = .ok (.iconst 0, 1) := by decide +kernel
theorem dX7_valueAt_9 : decode cX7_valueAt 9 = .ok (.ireturn, 1) := by decide +kernel
theorem dX7_valueAt_10 : decode cX7_valueAt 10 = .ok (.aload_n 0, 1) := by decide +kernel
theorem dX7_valueAt_11 : decode cX7_valueAt 11 = .ok (.getfield 11, 3) := by decide +kernel
theorem dX7_valueAt_14 : decode cX7_valueAt 14 = .ok (.iload_n 1, 1) := by decide +kernel
theorem dX7_valueAt_15 : decode cX7_valueAt 15 = .ok (.iaload, 1) := by decide +kernel
theorem dX7_valueAt_16 : decode cX7_valueAt 16 = .ok (.ldc 24, 2) := by decide +kernel
theorem dX7_valueAt_18 : decode cX7_valueAt 18 = .ok (.if_icmp .ne 94, 3) := by decide +kernel
theorem dX7_valueAt_21 : decode cX7_valueAt 21 = .ok (.aload_n 0, 1) := by decide +kernel
theorem dX7_valueAt_22 : decode cX7_valueAt 22 = .ok (.iload_n 1, 1) := by decide +kernel
theorem dX7_valueAt_23 : decode cX7_valueAt 23 = .ok (.invokevirtual 37, 3) := by decide +kernel
theorem dX7_valueAt_26 : decode cX7_valueAt 26 = .ok (.istore_n 3, 1) := by decide +kernel
theorem dX7_valueAt_27 : decode cX7_valueAt 27 = .ok (.aload_n 0, 1) := by decide +kernel
theorem dX7_valueAt_28 : decode cX7_valueAt 28 = .ok (.iload_n 1, 1) := by decide +kernel
theorem dX7_valueAt_29 : decode cX7_valueAt 29 = .ok (.invokevirtual 41, 3) := by decide +kernel
theorem dX7_valueAt_32 : decode cX7_valueAt 32 = .ok (.istore 4, 2) := by decide +kernel
theorem dX7_valueAt_34 : decode cX7_valueAt 34 = .ok (.iload_n 1, 1) := by decide +kernel
theorem dX7_valueAt_35 : decode cX7_valueAt 35 = .ok (.invokestatic 44, 3) := by decide +kernel
theorem dX7_valueAt_38 : decode cX7_valueAt 38 = .ok (.istore 5, 2) := by decide +kernel
theorem dX7_valueAt_40 : decode cX7_valueAt 40 = .ok (.iload_n 3, 1) := by decide +kernel
theorem dX7_valueAt_41 : decode cX7_valueAt 41 = .ok (.ifCond .ne 11, 3) := by decide +kernel
theorem dX7_valueAt_44 : decode cX7_valueAt 44 = .ok (.aload_n 0, 1) := by decide +kernel
theorem dX7_valueAt_45 : decode cX7_valueAt 45 = .ok (.getfield 112, 3) := by decide +kernel
theorem dX7_valueAt_48 : decode cX7_valueAt 48 = .ok (.ineg, 1) := by decide +kernel
theorem dX7_valueAt_49 : decode cX7_valueAt 49 = .ok (.goto 5, 3) := by decide +kernel
theorem dX7_valueAt_52 : decode cX7_valueAt 52 = .ok (.ldc 24, 2) := by decide +kernel
theorem dX7_valueAt_54 : decode cX7_valueAt 54 = .ok (.istore 6, 2) := by decide +kernel
theorem dX7_valueAt_56 : decode cX7_valueAt 56 = .ok (.iconst 0, 1) := by decide +kernel
theorem dX7_valueAt_57 : decode cX7_valueAt 57 = .ok (.istore 7, 2) := by decide +kernel
theorem dX7_valueAt_59 : decode cX7_valueAt 59 = .ok (.iload 7, 2) := by decide +kernel
theorem dX7_valueAt_61 : decode cX7_valueAt 61 = .ok (.bipush 20, 2) := by decide +kernel
theorem dX7_valueAt_63 : decode cX7_valueAt 63 = .ok (.if_icmp .gt 41, 3) := by decide +kernel
theorem dX7_valueAt_66 : decode cX7_valueAt 66 = .ok (.iload_n 3, 1) := by decide +kernel
theorem dX7_valueAt_67 : decode cX7_valueAt 67 = .ok (.iload 7, 2) := by decide +kernel
theorem dX7_valueAt_69 : decode cX7_valueAt 69 = .ok (.invokestatic 47, 3) := by decide +kernel
theorem dX7_valueAt_72 : decode cX7_valueAt 72 = .ok (.ifCond .eq 26, 3) := by decide +kernel
theorem dX7_valueAt_75 : decode cX7_valueAt 75 = .ok (.iload 6, 2) := by decide +kernel
theorem dX7_valueAt_77 : decode cX7_valueAt 77 = .ok (.aload_n 0, 1) := by decide +kernel
theorem dX7_valueAt_78 : decode cX7_valueAt 78 = .ok (.iload 7, 2) := by decide +kernel
theorem dX7_valueAt_80 : decode cX7_valueAt 80 = .ok (.iload 5, 2) := by decide +kernel
theorem dX7_valueAt_82 : decode cX7_valueAt 82 = .ok (.iload 4, 2) := by decide +kernel
theorem dX7_valueAt_84 : decode cX7_valueAt 84 = .ok (.iload 7, 2) := by decide +kernel
theorem dX7_valueAt_86 : decode cX7_valueAt 86 = .ok (.invokestatic 47, 3) := by decide +kernel
theorem dX7_valueAt_89 : decode cX7_valueAt 89 = .ok (.iload_n 2, 1) := by decide +kernel
theorem dX7_valueAt_90 : decode cX7_valueAt 90 = .ok (.invokevirtual 58, 3) := by decide +kernel
theorem dX7_valueAt_93 : decode cX7_valueAt 93 = .ok (.invokestatic 130, 3) := by decide +kernel
theorem dX7_valueAt_96 : decode cX7_valueAt 96 = .ok (.istore 6, 2) := by decide +kernel
theorem dX7_valueAt_98 : decode cX7_valueAt 98 = .ok (.iinc 7 1, 3) := by decide +kernel
theorem dX7_valueAt_101 : decode cX7_valueAt 101 = .ok (.goto (-42), 3) := by decide +kernel
theorem dX7_valueAt_104 : decode cX7_valueAt 104 = .ok (.aload_n 0, 1) := by decide +kernel
theorem dX7_valueAt_105 : decode cX7_valueAt 105 = .ok (.getfield 11, 3) := by decide +kernel
theorem dX7_valueAt_108 : decode cX7_valueAt 108 = .ok (.iload_n 1, 1) := by decide +kernel
theorem dX7_valueAt_109 : decode cX7_valueAt 109 = .ok (.iload 6, 2) := by decide +kernel
theorem dX7_valueAt_111 : decode cX7_valueAt 111 = .ok (.iastore, 1) := by decide +kernel
theorem dX7_valueAt_112 : decode cX7_valueAt 112 = .ok (.aload_n 0, 1) := by decide +kernel
theorem dX7_valueAt_113 : decode cX7_valueAt 113 = .ok (.getfield 11, 3) := by decide +kernel
theorem dX7_valueAt_116 : decode cX7_valueAt 116 = .ok (.iload_n 1, 1) := by decide +kernel
theorem dX7_valueAt_117 : decode cX7_valueAt 117 = .ok (.iaload, 1) := by decide +kernel
theorem dX7_valueAt_118 : decode cX7_valueAt 118 = .ok (.ireturn, 1) := by decide +kernel
set_option maxRecDepth 20000 in
theorem ggX8_init_X0_init : GoodIn wsX8_init wsX0_init := goodIn_r _ [31, 32, 2, 3, 33, 34, 35, 36, 37, 38, 39, 40, 41, 42, 43, 44, 45, 46, 47, 48, 49, 79, 80, 81, 82, 83, 84, 85, 86, 87, 88, 113, 114, 115, 116, 117, 118] (by decide +kernel) (by decide +kernel)
set_option maxRecDepth 20000 in
theorem gX8_init_X0_init_n11 : GoodIn wsX8_init (wsX0_init) := ggX8_init_X0_init
set_option maxRecDepth 20000 in
theorem ggX8_init_X1_init : GoodIn wsX8_init wsX1_init := goodIn_r _ [51, 52, 2, 3, 53, 54, 5, 6, 30, 31, 32, 33, 34, 35, 36, 37, 38, 39, 40, 41, 42, 43, 44, 45, 46, 47, 48, 49, 97, 98, 79, 80, 81, 82, 83, 84, 85, 86, 87, 88, 113, 114, 115, 116, 117, 118] (by decide +kernel) (by decide +kernel)
set_option maxRecDepth 20000 in
theorem gX8_init_X1_init_n24 : GoodIn wsX8_init (wsX1_init) := ggX8_init_X1_init
set_option maxRecDepth 20000 in
theorem ggX8_init_X7_init : GoodIn wsX8_init wsX7_init := goodIn_r _ [56, 57, 2, 3, 58, 59, 60, 61, 62, 63, 64, 99, 100, 101, 102, 103, 104, 105, 106] (by decide +kernel) (by decide +kernel)
set_option maxRecDepth 20000 in
theorem gX8_init_X7_init_n37 : GoodIn wsX8_init (wsX7_init) := ggX8_init_X7_init
set_option maxRecDepth 20000 in
theorem ggX8_init_X5_init : GoodIn wsX8_init wsX5_init := goodIn_r _ [66, 67, 2, 3, 58, 68, 107, 108] (by decide +kernel) (by decide +kernel)
set_option maxRecDepth 20000 in
theorem gX8_init_X5_init_n44 : GoodIn wsX8_init (wsX5_init) := ggX8_init_X5_init
set_option maxRecDepth 20000 in
theorem ggX8_init_X2_init : GoodIn wsX8_init wsX2_init := goodIn_r _ [70, 71, 2, 3, 72, 73, 109, 110] (by decide +kernel) (by decide +kernel)
set_option maxRecDepth 20000 in
theorem gX8_init_X2_init_n51 : GoodIn wsX8_init (wsX2_init) := ggX8_init_X2_init
set_option maxRecDepth 20000 in
theorem ggX8_init_X6_init : GoodIn wsX8_init wsX6_init := goodIn_r _ [75, 76, 2, 3, 77, 5, 6, 78, 30, 31, 32, 33, 34, 35, 36, 37, 38, 39, 40, 41, 42, 43, 44, 45, 46, 47, 48, 49, 79, 80, 81, 82, 83, 84, 85, 86, 87, 88, 111, 112, 113, 114, 115, 116, 117, 118] (by decide +kernel) (by decide +kernel)
set_option maxRecDepth 20000 in
theorem gX8_init_X6_init_n56 : GoodIn wsX8_init (wsX6_init) := ggX8_init_X6_init
theorem dX8_init_0 : decode cX8_init 0 = .ok (.aload_n 0, 1) := by decide +kernel
theorem dX8_init_1 : decode cX8_init 1 = .ok (.invokespecial 3, 3) := by decide +kernel
theorem dX8_init_4 : decode cX8_init 4 = .ok (.aload_n 0, 1) := by decide +kernel
theorem dX8_init_5 : decode cX8_init 5 = .ok (.new 9, 3) := by decide +kernel
theorem dX8_init_8 : decode cX8_init 8 = .ok (.dup, 1) := by decide +kernel
theorem dX8_init_9 : decode cX8_init 9 = .ok (.invokespecial 11, 3) := by decide +kernel
theorem dX8_init_12 : decode cX8_init 12 = .ok (.putfield 12, 3) := by decide +kernel
theorem dX8_init_15 : decode cX8_init 15 = .ok (.aload_n 0, 1) := by decide +kernel
theorem dX8_init_16 : decode cX8_init 16 = .ok (.new 9, 3) := by decide +kernel
theorem dX8_init_19 : decode cX8_init 19 = .ok (.dup, 1) := by decide +kernel
theorem dX8_init_20 : decode cX8_init 20 = .ok (.invokespecial 11, 3) := by decide +kernel
theorem dX8_init_23 : decode cX8_init 23 = .ok (.putfield 16, 3) := by decide +kernel
theorem dX8_init_26 : decode cX8_init 26 = .ok (.aload_n 0, 1) := by decide +kernel
theorem dX8_init_27 : decode cX8_init 27 = .ok (.new 9, 3) := by decide +kernel
theorem dX8_init_30 : decode cX8_init 30 = .ok (.dup, 1) := by decide +kernel
theorem dX8_init_31 : decode cX8_init 31 = .ok (.invokespecial 11, 3) := by decide +kernel
theorem dX8_init_34 : decode cX8_init 34 = .ok (.putfield 19, 3) := by decide +kernel
theorem dX8_init_37 : decode cX8_init 37 = .ok (.aload_n 0, 1) := by decide +kernel
theorem dX8_init_38 : decode cX8_init 38 = .ok (.new 22, 3) := by decide +kernel
theorem dX8_init_41 : decode cX8_init 41 = .ok (.dup, 1) := by decide +kernel
theorem dX8_init_42 : decode cX8_init 42 = .ok (.invokespecial 24, 3) := by decide +kernel
theorem dX8_init_45 : decode cX8_init 45 = .ok (.putfield 25, 3) := by decide +kernel
theorem dX8_init_48 : decode cX8_init 48 = .ok (.aload_n 0, 1) := by decide +kernel
theorem dX8_init_49 : decode cX8_init 49 = .ok (.iconst 2, 1) := by decide +kernel
theorem dX8_init_50 : decode cX8_init 50 = .ok (.anewarray 29, 3) := by decide +kernel
theorem dX8_init_53 : decode cX8_init 53 = .ok (.putfield 31, 3) := by decide +kernel
theorem dX8_init_56 : decode cX8_init 56 = .ok (.aload_n 0, 1) := by decide +kernel
theorem dX8_init_57 : decode cX8_init 57 = .ok (.new 35, 3) := by decide +kernel
theorem dX8_init_60 : decode cX8_init 60 = .ok (.dup, 1) := by decide +kernel
theorem dX8_init_61 : decode cX8_init 61 = .ok (.invokespecial 37, 3) := by decide +kernel
theorem dX8_init_64 : decode cX8_init 64 = .ok (.putfield 38, 3) := by decide +kernel
theorem dX8_init_67 : decode cX8_init 67 = .ok (.aload_n 0, 1) := by decide +kernel
theorem dX8_init_68 : decode cX8_init 68 = .ok (.new 42, 3) := by decide +kernel
theorem dX8_init_71 : decode cX8_init 71 = .ok (.dup, 1) := by decide +kernel
theorem dX8_init_72 : decode cX8_init 72 = .ok (.invokespecial 44, 3) := by decide +kernel
theorem dX8_init_75 : decode cX8_init 75 = .ok (.putfield 45, 3) := by decide +kernel
theorem dX8_init_78 : decode cX8_init 78 = .ok (.aload_n 0, 1) := by decide +kernel
theorem dX8_init_79 : decode cX8_init 79 = .ok (.new 49, 3) := by decide +kernel
theorem dX8_init_82 : decode cX8_init 82 = .ok (.dup, 1) := by decide +kernel
theorem dX8_init_83 : decode cX8_init 83 = .ok (.invokespecial 51, 3) := by decide +kernel
theorem dX8_init_86 : decode cX8_init 86 = .ok (.putfield 52, 3) := by decide +kernel
theorem dX8_init_89 : decode cX8_init 89 = .ok (.iconst 0, 1) := by decide +kernel
theorem dX8_init_90 : decode cX8_init 90 = .ok (.istore_n 1, 1) := by decide +kernel
theorem dX8_init_91 : decode cX8_init 91 = .ok (.iload_n 1, 1) := by decide +kernel
theorem dX8_init_92 : decode cX8_init 92 = .ok (.aload_n 0, 1) := by decide +kernel
theorem dX8_init_93 : decode cX8_init 93 = .ok (.getfield 31, 3) := by decide +kernel
theorem dX8_init_96 : decode cX8_init 96 = .ok (.arraylength, 1) := by decide +kernel
theorem dX8_init_97 : decode cX8_init 97 = .ok (.if_icmp .ge 22, 3) := by decide +kernel
theorem dX8_init_100 : decode cX8_init 100 = .ok (.aload_n 0, 1) := by decide +kernel
theorem dX8_init_101 : decode cX8_init 101 = .ok (.getfield 31, 3) := by decide +kernel
theorem dX8_init_104 : decode cX8_init 104 = .ok (.iload_n 1, 1) := by decide +kernel
theorem dX8_init_105 : decode cX8_init 105 = .ok (.new 29, 3) := by decide +kernel
theorem dX8_init_108 : decode cX8_init 108 = .ok (.dup, 1) := by decide +kernel
theorem dX8_init_109 : decode cX8_init 109 = .ok (.invokespecial 56, 3) := by decide +kernel
theorem dX8_init_112 : decode cX8_init 112 = .ok (.aastore, 1) := by decide +kernel
theorem dX8_init_113 : decode cX8_init 113 = .ok (.iinc 1 1, 3) := by decide +kernel
theorem dX8_init_116 : decode cX8_init 116 = .ok (.goto (-25), 3) := by decide +kernel
theorem dX8_init_119 : decode cX8_init 119 = .ok (.return_, 1) := by decide +kernel
set_option maxRecDepth 20000 in
theorem ggX8_set_X0_copyFrom : GoodIn wsX8_set wsX0_copyFrom := goodIn_r _ [6, 7, 8, 9, 10, 11, 12, 13, 14, 15, 16, 17, 18, 19, 20, 21, 22, 23, 24, 25, 26, 27, 28, 29, 30, 59, 60, 61, 62, 63, 64, 65, 66, 67, 68, 69, 70, 71, 72, 73, 74] (by decide +kernel) (by decide +kernel)
set_option maxRecDepth 20000 in
theorem gX8_set_X0_copyFrom_n57 : GoodIn wsX8_set (wsX0_copyFrom) := ggX8_set_X0_copyFrom
set_option maxRecDepth 20000 in
theorem ggX8_set_X8_changeSetting : GoodIn wsX8_set wsX8_changeSetting := goodIn_r _ [35, 2, 51, 52, 53, 54, 55, 56, 57, 58, 59, 60, 61, 62, 63, 64, 65, 66, 67, 68] (by decide +kernel) (by decide +kernel)
set_option maxRecDepth 20000 in
theorem gX8_set_X8_changeSetting : GoodIn wsX8_set (wsV RX8 61 RX8 yX8_changeSetting wsX8_changeSetting) := goodIn_app (goodIn_of _ (by decide +kernel)) ggX8_set_X8_changeSetting
set_option maxRecDepth 20000 in
theorem ggX8_set_X8_recorded : GoodIn wsX8_set wsX8_recorded := goodIn_r _ [39, 40, 1, 41, 42, 43, 44, 45, 46, 47, 48, 49, 50, 3, 4, 5, 6, 7, 8, 9, 10, 11, 12, 13, 14, 15, 16, 17, 18, 19, 20, 21, 22, 23, 24, 25, 26, 27, 28, 29, 30, 51, 52, 53, 54, 55, 56, 57, 58, 75, 76, 59, 60, 61, 62, 63, 64, 65, 66, 67, 68, 69, 70, 71, 72, 73, 74] (by decide +kernel) (by decide +kernel)
set_option maxRecDepth 20000 in
theorem gX8_set_X8_recorded : GoodIn wsX8_set (wsV RX8 65 RX8 yX8_recorded wsX8_recorded) := goodIn_app (goodIn_of _ (by decide +kernel)) ggX8_set_X8_recorded
theorem dX8_set_0 : decode cX8_set 0 = .ok (.aload_n 0, 1) := by decide +kernel
theorem dX8_set_1 : decode cX8_set 1 = .ok (.getfield 16, 3) := by decide +kernel
theorem dX8_set_4 : decode cX8_set 4 = .ok (.aload_n 0, 1) := by decide +kernel
theorem dX8_set_5 : decode cX8_set 5 = .ok (.getfield 12, 3) := by decide +kernel
