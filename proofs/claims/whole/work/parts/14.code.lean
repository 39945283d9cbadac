theorem dX9_records_49 : decode cX9_records 49 = .ok (.iconst 0, 1) := by decide +kernel
theorem dX9_records_50 : decode cX9_records 50 = .ok (.istore_n 1, 1) := by decide +kernel
theorem dX9_records_51 : decode cX9_records 51 = .ok (.iload_n 1, 1) := by decide +kernel
theorem dX9_records_52 : decode cX9_records 52 = .ok (.bipush 27, 2) := by decide +kernel
theorem dX9_records_54 : decode cX9_records 54 = .ok (.if_icmp .ge 29, 3) := by decide +kernel
theorem dX9_records_57 : decode cX9_records 57 = .ok (.aload_n 0, 1) := by decide +kernel
theorem dX9_records_58 : decode cX9_records 58 = .ok (.getfield 16, 3) := by decide +kernel
theorem dX9_records_61 : decode cX9_records 61 = .ok (.bipush 27, 2) := by decide +kernel
theorem dX9_records_63 : decode cX9_records 63 = .ok (.aload_n 0, 1) := by decide +kernel
theorem dX9_records_64 : decode cX9_records 64 = .ok (.getfield 49, 3) := by decide +kernel
theorem dX9_records_67 : decode cX9_records 67 = .ok (.imul, 1) := by decide +kernel
theorem dX9_records_68 : decode cX9_records 68 = .ok (.iload_n 1, 1) := by decide +kernel
theorem dX9_records_69 : decode cX9_records 69 = .ok (.iadd, 1) := by decide +kernel
theorem dX9_records_70 : decode cX9_records 70 = .ok (.aload_n 0, 1) := by decide +kernel
theorem dX9_records_71 : decode cX9_records 71 = .ok (.getfield 7, 3) := by decide +kernel
theorem dX9_records_74 : decode cX9_records 74 = .ok (.iload_n 1, 1) := by decide +kernel
theorem dX9_records_75 : decode cX9_records 75 = .ok (.iaload, 1) := by decide +kernel
theorem dX9_records_76 : decode cX9_records 76 = .ok (.iastore, 1) := by decide +kernel
theorem dX9_records_77 : decode cX9_records 77 = .ok (.iinc 1 1, 3) := by decide +kernel
theorem dX9_records_80 : decode cX9_records 80 = .ok (.goto (-29), 3) := by decide +kernel
theorem dX9_records_83 : decode cX9_records 83 = .ok (.aload_n 0, 1) := by decide +kernel
theorem dX9_records_84 : decode cX9_records 84 = .ok (.dup, 1) := by decide +kernel
theorem dX9_records_85 : decode cX9_records 85 = .ok (.getfield 49, 3) := by decide +kernel
theorem dX9_records_88 : decode cX9_records 88 = .ok (.iconst 1, 1) := by decide +kernel
theorem dX9_records_89 : decode cX9_records 89 = .ok (.iadd, 1) := by decide +kernel
theorem dX9_records_90 : decode cX9_records 90 = .ok (.putfield 49, 3) := by decide +kernel
theorem dX9_records_93 : decode cX9_records 93 = .ok (.return_, 1) := by decide +kernel
theorem dX9_unit_0 : decode cX9_unit 0 = .ok (.iload_n 0, 1) := by decide +kernel
theorem dX9_unit_1 : decode cX9_unit 1 = .ok (.ifCond .ne 7, 3) := by decide +kernel
theorem dX9_unit_4 : decode cX9_unit 4 = .ok (.iconst 1, 1) := by decide +kernel
theorem dX9_unit_5 : decode cX9_unit 5 = .ok (.goto 26, 3) := by decide +kernel
theorem dX9_unit_8 : decode cX9_unit 8 = .ok (.iload_n 0, 1) := by decide +kernel
theorem dX9_unit_9 : decode cX9_unit 9 = .ok (.iconst 1, 1) := by decide +kernel
theorem dX9_unit_10 : decode cX9_unit 10 = .ok (.if_icmp .ne 8, 3) := by decide +kernel
theorem dX9_unit_13 : decode cX9_unit 13 = .ok (.bipush 6, 2) := by decide +kernel
theorem dX9_unit_15 : decode cX9_unit 15 = .ok (.goto 16, 3) := by decide +kernel
theorem dX9_unit_18 : decode cX9_unit 18 = .ok (.iload_n 0, 1) := by decide +kernel
theorem dX9_unit_19 : decode cX9_unit 19 = .ok (.iconst 2, 1) := by decide +kernel
theorem dX9_unit_20 : decode cX9_unit 20 = .ok (.if_icmp .ne 8, 3) := by decide +kernel
theorem dX9_unit_23 : decode cX9_unit 23 = .ok (.bipush 36, 2) := by decide +kernel
theorem dX9_unit_25 : decode cX9_unit 25 = .ok (.goto 6, 3) := by decide +kernel
theorem dX9_unit_28 : decode cX9_unit 28 = .ok (.sipush 216, 3) := by decide +kernel
theorem dX9_unit_31 : decode cX9_unit 31 = .ok (.ireturn, 1) := by decide +kernel
set_option maxRecDepth 20000 in
theorem ggX9_tokensIn_X9_unit : GoodIn wsX9_tokensIn wsX9_unit := goodIn_r _ [4] (by decide +kernel) (by decide +kernel)
set_option maxRecDepth 20000 in
theorem gX9_tokensIn_X9_unit : GoodIn wsX9_tokensIn (va_wsS RX9 52 yX9_unit wsX9_unit) := goodIn_app (goodIn_of _ (by decide +kernel)) ggX9_tokensIn_X9_unit
theorem dX9_tokensIn_0 : decode cX9_tokensIn 0 = .ok (.iload_n 0, 1) := by decide +kernel
theorem dX9_tokensIn_1 : decode cX9_tokensIn 1 = .ok (.iload_n 1, 1) := by decide +kernel
theorem dX9_tokensIn_2 : decode cX9_tokensIn 2 = .ok (.invokestatic 52, 3) := by decide +kernel
theorem dX9_tokensIn_5 : decode cX9_tokensIn 5 = .ok (.idiv, 1) := by decide +kernel
theorem dX9_tokensIn_6 : decode cX9_tokensIn 6 = .ok (.bipush 6, 2) := by decide +kernel
theorem dX9_tokensIn_8 : decode cX9_tokensIn 8 = .ok (.irem, 1) := by decide +kernel
theorem dX9_tokensIn_9 : decode cX9_tokensIn 9 = .ok (.ireturn, 1) := by decide +kernel
theorem dX9_game_0 : decode cX9_game 0 = .ok (.iload_n 0, 1) := by decide +kernel
theorem dX9_game_1 : decode cX9_game 1 = .ok (.iconst 3, 1) := by decide +kernel
theorem dX9_game_2 : decode cX9_game 2 = .ok (.imul, 1) := by decide +kernel
theorem dX9_game_3 : decode cX9_game 3 = .ok (.iload_n 1, 1) := by decide +kernel
theorem dX9_game_4 : decode cX9_game 4 = .ok (.iadd, 1) := by decide +kernel
theorem dX9_game_5 : decode cX9_game 5 = .ok (.iconst 3, 1) := by decide +kernel
theorem dX9_game_6 : decode cX9_game 6 = .ok (.imul, 1) := by decide +kernel
theorem dX9_game_7 : decode cX9_game 7 = .ok (.iload_n 2, 1) := by decide +kernel
theorem dX9_game_8 : decode cX9_game 8 = .ok (.iadd, 1) := by decide +kernel
theorem dX9_game_9 : decode cX9_game 9 = .ok (.iconst 2, 1) := by decide +kernel
theorem dX9_game_10 : decode cX9_game 10 = .ok (.imul, 1) := by decide +kernel
theorem dX9_game_11 : decode cX9_game 11 = .ok (.iload_n 3, 1) := by decide +kernel
theorem dX9_game_12 : decode cX9_game 12 = .ok (.iadd, 1) := by decide +kernel
theorem dX9_game_13 : decode cX9_game 13 = .ok (.ireturn, 1) := by decide +kernel
set_option maxRecDepth 20000 in
theorem ggX9_can_X9_isAllowed : GoodIn wsX9_can wsX9_isAllowed := goodIn_r _ [5, 6, 7, 8, 4, 9, 16, 17, 18, 19, 20, 21, 22, 23, 24, 25, 26, 27, 28, 29, 30, 31] (by decide +kernel) (by decide +kernel)
set_option maxRecDepth 20000 in
theorem gX9_can_X9_isAllowed : GoodIn wsX9_can (wsV RX9 56 RX9 yX9_isAllowed wsX9_isAllowed) := goodIn_app (goodIn_of _ (by decide +kernel)) ggX9_can_X9_isAllowed
set_option maxRecDepth 20000 in
theorem ggX9_can_X9_tokensIn : GoodIn wsX9_can wsX9_tokensIn := goodIn_r _ [12, 13, 14, 4, 15] (by decide +kernel) (by decide +kernel)
set_option maxRecDepth 20000 in
theorem gX9_can_X9_tokensIn : GoodIn wsX9_can (va_wsS RX9 60 yX9_tokensIn wsX9_tokensIn) := goodIn_app (goodIn_of _ (by decide +kernel)) ggX9_can_X9_tokensIn
theorem dX9_can_0 : decode cX9_can 0 = .ok (.iload_n 1, 1) := by decide +kernel
theorem dX9_can_1 : decode cX9_can 1 = .ok (.bipush 20, 2) := by decide +kernel
theorem dX9_can_3 : decode cX9_can 3 = .ok (.if_icmp .ne 22, 3) := by decide +kernel
theorem dX9_can_6 : decode cX9_can 6 = .ok (.iload_n 3, 1) := by decide +kernel
theorem dX9_can_7 : decode cX9_can 7 = .ok (.ifCond .le 16, 3) := by decide +kernel
theorem dX9_can_10 : decode cX9_can 10 = .ok (.iload 4, 2) := by decide +kernel
theorem dX9_can_12 : decode cX9_can 12 = .ok (.ifCond .ne 11, 3) := by decide +kernel
theorem dX9_can_15 : decode cX9_can 15 = .ok (.iload_n 2, 1) := by decide +kernel
theorem dX9_can_16 : decode cX9_can 16 = .ok (.ifCond .le 7, 3) := by decide +kernel
theorem dX9_can_19 : decode cX9_can 19 = .ok (.iconst 1, 1) := by decide +kernel
theorem dX9_can_20 : decode cX9_can 20 = .ok (.goto 4, 3) := by decide +kernel
theorem dX9_can_23 : decode cX9_can 23 = .ok (.iconst 0, 1) := by decide +kernel
theorem dX9_can_24 : decode cX9_can 24 = .ok (.ireturn, 1) := by decide +kernel
theorem dX9_can_25 : decode cX9_can 25 = .ok (.aload_n 0, 1) := by decide +kernel
theorem dX9_can_26 : decode cX9_can 26 = .ok (.iload_n 1, 1) := by decide +kernel
theorem dX9_can_27 : decode cX9_can 27 = .ok (.iconst 5, 1) := by decide +kernel
theorem dX9_can_28 : decode cX9_can 28 = .ok (.irem, 1) := by decide +kernel
theorem dX9_can_29 : decode cX9_can 29 = .ok (.iconst 1, 1) := by decide +kernel
theorem dX9_can_30 : decode cX9_can 30 = .ok (.iadd, 1) := by decide +kernel
theorem dX9_can_31 : decode cX9_can 31 = .ok (.invokevirtual 56, 3) := by decide +kernel
theorem dX9_can_34 : decode cX9_can 34 = .ok (.ifCond .eq 22, 3) := by decide +kernel
theorem dX9_can_37 : decode cX9_can 37 = .ok (.iload_n 2, 1) := by decide +kernel
theorem dX9_can_38 : decode cX9_can 38 = .ok (.iload_n 1, 1) := by decide +kernel
theorem dX9_can_39 : decode cX9_can 39 = .ok (.iconst 5, 1) := by decide +kernel
theorem dX9_can_40 : decode cX9_can 40 = .ok (.idiv, 1) := by decide +kernel
theorem dX9_can_41 : decode cX9_can 41 = .ok (.invokestatic 60, 3) := by decide +kernel
theorem dX9_can_44 : decode cX9_can 44 = .ok (.iload_n 1, 1) := by decide +kernel
theorem dX9_can_45 : decode cX9_can 45 = .ok (.iconst 5, 1) := by decide +kernel
theorem dX9_can_46 : decode cX9_can 46 = .ok (.irem, 1) := by decide +kernel
theorem dX9_can_47 : decode cX9_can 47 = .ok (.iconst 1, 1) := by decide +kernel
theorem dX9_can_48 : decode cX9_can 48 = .ok (.iadd, 1) := by decide +kernel
theorem dX9_can_49 : decode cX9_can 49 = .ok (.if_icmp .lt 7, 3) := by decide +kernel
theorem dX9_can_52 : decode cX9_can 52 = .ok (.iconst 1, 1) := by decide +kernel
theorem dX9_can_53 : decode cX9_can 53 = .ok (.goto 4, 3) := by decide +kernel
theorem dX9_can_56 : decode cX9_can 56 = .ok (.iconst 0, 1) := by decide +kernel
theorem dX9_can_57 : decode cX9_can 57 = .ok (.ireturn, 1) := by decide +kernel
set_option maxRecDepth 20000 in
theorem ggX9_isPoisoned_X9_of : GoodIn wsX9_isPoisoned wsX9_of := goodIn_r _ [5, 6, 13, 14, 15, 16, 17, 18, 19, 20, 21, 22, 23, 24, 25, 26, 27, 28] (by decide +kernel) (by decide +kernel)
set_option maxRecDepth 20000 in
theorem gX9_isPoisoned_X9_of : GoodIn wsX9_isPoisoned (wsV RX9 64 RX9 yX9_of wsX9_of) := goodIn_app (goodIn_of _ (by decide +kernel)) ggX9_isPoisoned_X9_of
set_option maxRecDepth 20000 in
theorem ggX9_isPoisoned_X9_tokensIn : GoodIn wsX9_isPoisoned wsX9_tokensIn := goodIn_r _ [9, 10, 11, 4, 12] (by decide +kernel) (by decide +kernel)
set_option maxRecDepth 20000 in
theorem gX9_isPoisoned_X9_tokensIn : GoodIn wsX9_isPoisoned (va_wsS RX9 60 yX9_tokensIn wsX9_tokensIn) := goodIn_app (goodIn_of _ (by decide +kernel)) ggX9_isPoisoned_X9_tokensIn
theorem dX9_isPoisoned_0 : decode cX9_isPoisoned 0 = .ok (.iload_n 1, 1) := by decide +kernel
theorem dX9_isPoisoned_1 : decode cX9_isPoisoned 1 = .ok (.bipush 20, 2) := by decide +kernel
theorem dX9_isPoisoned_3 : decode cX9_isPoisoned 3 = .ok (.if_icmp .eq 34, 3) := by decide +kernel
theorem dX9_isPoisoned_6 : decode cX9_isPoisoned 6 = .ok (.aload_n 0, 1) := by decide +kernel
theorem dX9_isPoisoned_7 : decode cX9_isPoisoned 7 = .ok (.iload_n 1, 1) := by decide +kernel
theorem dX9_isPoisoned_8 : decode cX9_isPoisoned 8 = .ok (.iconst 5, 1) := by decide +kernel
theorem dX9_isPoisoned_9 : decode cX9_isPoisoned 9 = .ok (.idiv, 1) := by decide +kernel
theorem dX9_isPoisoned_10 : decode cX9_isPoisoned 10 = .ok (.iconst 2, 1) := by decide +kernel
theorem dX9_isPoisoned_11 : decode cX9_isPoisoned 11 = .ok (.invokevirtual 64, 3) := by decide +kernel
theorem dX9_isPoisoned_14 : decode cX9_isPoisoned 14 = .ok (.iconst 1, 1) := by decide +kernel
theorem dX9_isPoisoned_15 : decode cX9_isPoisoned 15 = .ok (.if_icmp .ne 22, 3) := by decide +kernel
theorem dX9_isPoisoned_18 : decode cX9_isPoisoned 18 = .ok (.iload_n 2, 1) := by decide +kernel
theorem dX9_isPoisoned_19 : decode cX9_isPoisoned 19 = .ok (.iload_n 1, 1) := by decide +kernel
theorem dX9_isPoisoned_20 : decode cX9_isPoisoned 20 = .ok (.iconst 5, 1) := by decide +kernel
theorem dX9_isPoisoned_21 : decode cX9_isPoisoned 21 = .ok (.idiv, 1) := by decide +kernel
theorem dX9_isPoisoned_22 : decode cX9_isPoisoned 22 = .ok (.invokestatic 60, 3) := by decide +kernel
theorem dX9_isPoisoned_25 : decode cX9_isPoisoned 25 = .ok (.iload_n 1, 1) := by decide +kernel
theorem dX9_isPoisoned_26 : decode cX9_isPoisoned 26 = .ok (.iconst 5, 1) := by decide +kernel
theorem dX9_isPoisoned_27 : decode cX9_isPoisoned 27 = .ok (.irem, 1) := by decide +kernel
theorem dX9_isPoisoned_28 : decode cX9_isPoisoned 28 = .ok (.iconst 1, 1) := by decide +kernel
theorem dX9_isPoisoned_29 : decode cX9_isPoisoned 29 = .ok (.iadd, 1) := by decide +kernel
theorem dX9_isPoisoned_30 : decode cX9_isPoisoned 30 = .ok (.if_icmp .ne 7, 3) := by decide +kernel
theorem dX9_isPoisoned_33 : decode cX9_isPoisoned 33 = .ok (.iconst 1, 1) := by decide +kernel
theorem dX9_isPoisoned_34 : decode cX9_isPoisoned 34 = .ok (.goto 4, 3) := by decide +kernel
theorem dX9_isPoisoned_37 : decode cX9_isPoisoned 37 = .ok (.iconst 0, 1) := by decide +kernel
theorem dX9_isPoisoned_38 : decode cX9_isPoisoned 38 = .ok (.ireturn, 1) := by decide +kernel
set_option maxRecDepth 20000 in
theorem ggX9_behind_X9_game : GoodIn wsX9_behind wsX9_game := goodIn_r _ [4] (by decide +kernel) (by decide +kernel)
set_option maxRecDepth 20000 in
theorem gX9_behind_X9_game : GoodIn wsX9_behind (va_wsS RX9 67 yX9_game wsX9_game) := goodIn_app (goodIn_of _ (by decide +kernel)) ggX9_behind_X9_game
set_option maxRecDepth 20000 in
theorem ggX9_behind_X9_unit : GoodIn wsX9_behind wsX9_unit := goodIn_r _ [7] (by decide +kernel) (by decide +kernel)
set_option maxRecDepth 20000 in
theorem gX9_behind_X9_unit : GoodIn wsX9_behind (va_wsS RX9 52 yX9_unit wsX9_unit) := goodIn_app (goodIn_of _ (by decide +kernel)) ggX9_behind_X9_unit
theorem dX9_behind_0 : decode cX9_behind 0 = .ok (.iload_n 0, 1) := by decide +kernel
theorem dX9_behind_1 : decode cX9_behind 1 = .ok (.bipush 20, 2) := by decide +kernel
theorem dX9_behind_3 : decode cX9_behind 3 = .ok (.if_icmp .ne 15, 3) := by decide +kernel
theorem dX9_behind_6 : decode cX9_behind 6 = .ok (.iload_n 1, 1) := by decide +kernel
theorem dX9_behind_7 : decode cX9_behind 7 = .ok (.iload_n 3, 1) := by decide +kernel
theorem dX9_behind_8 : decode cX9_behind 8 = .ok (.iload_n 2, 1) := by decide +kernel
theorem dX9_behind_9 : decode cX9_behind 9 = .ok (.iconst 1, 1) := by decide +kernel
theorem dX9_behind_10 : decode cX9_behind 10 = .ok (.isub, 1) := by decide +kernel
theorem dX9_behind_11 : decode cX9_behind 11 = .ok (.iconst 1, 1) := by decide +kernel
theorem dX9_behind_12 : decode cX9_behind 12 = .ok (.invokestatic 67, 3) := by decide +kernel
theorem dX9_behind_15 : decode cX9_behind 15 = .ok (.goto 23, 3) := by decide +kernel
theorem dX9_behind_18 : decode cX9_behind 18 = .ok (.iload_n 1, 1) := by decide +kernel
theorem dX9_behind_19 : decode cX9_behind 19 = .ok (.iload_n 0, 1) := by decide +kernel
theorem dX9_behind_20 : decode cX9_behind 20 = .ok (.iconst 5, 1) := by decide +kernel
theorem dX9_behind_21 : decode cX9_behind 21 = .ok (.idiv, 1) := by decide +kernel
theorem dX9_behind_22 : decode cX9_behind 22 = .ok (.invokestatic 52, 3) := by decide +kernel
theorem dX9_behind_25 : decode cX9_behind 25 = .ok (.iload_n 0, 1) := by decide +kernel
theorem dX9_behind_26 : decode cX9_behind 26 = .ok (.iconst 5, 1) := by decide +kernel
theorem dX9_behind_27 : decode cX9_behind 27 = .ok (.irem, 1) := by decide +kernel
theorem dX9_behind_28 : decode cX9_behind 28 = .ok (.iconst 1, 1) := by decide +kernel
theorem dX9_behind_29 : decode cX9_behind 29 = .ok (.iadd, 1) := by decide +kernel
theorem dX9_behind_30 : decode cX9_behind 30 = .ok (.imul, 1) := by decide +kernel
theorem dX9_behind_31 : decode cX9_behind 31 = .ok (.isub, 1) := by decide +kernel
theorem dX9_behind_32 : decode cX9_behind 32 = .ok (.iload_n 3, 1) := by decide +kernel
theorem dX9_behind_33 : decode cX9_behind 33 = .ok (.iload_n 2, 1) := by decide +kernel
theorem dX9_behind_34 : decode cX9_behind 34 = .ok (.iconst 0, 1) := by decide +kernel
theorem dX9_behind_35 : decode cX9_behind 35 = .ok (.invokestatic 67, 3) := by decide +kernel
theorem dX9_behind_38 : decode cX9_behind 38 = .ok (.ireturn, 1) := by decide +kernel
set_option maxRecDepth 20000 in
theorem ggX9_gain_X9_of : GoodIn wsX9_gain wsX9_of := goodIn_r _ [5, 6, 7, 8, 9, 10, 11, 12, 13, 14, 15, 16, 17, 18, 19, 20, 21, 22] (by decide +kernel) (by decide +kernel)
set_option maxRecDepth 20000 in
theorem gX9_gain_X9_of : GoodIn wsX9_gain (wsV RX9 64 RX9 yX9_of wsX9_of) := goodIn_app (goodIn_of _ (by decide +kernel)) ggX9_gain_X9_of
theorem dX9_gain_0 : decode cX9_gain 0 = .ok (.iload_n 1, 1) := by decide +kernel
theorem dX9_gain_1 : decode cX9_gain 1 = .ok (.bipush 20, 2) := by decide +kernel
theorem dX9_gain_3 : decode cX9_gain 3 = .ok (.if_icmp .ne 7, 3) := by decide +kernel
theorem dX9_gain_6 : decode cX9_gain 6 = .ok (.iconst 0, 1) := by decide +kernel
theorem dX9_gain_7 : decode cX9_gain 7 = .ok (.goto 17, 3) := by decide +kernel
theorem dX9_gain_10 : decode cX9_gain 10 = .ok (.iload_n 1, 1) := by decide +kernel
theorem dX9_gain_11 : decode cX9_gain 11 = .ok (.iconst 5, 1) := by decide +kernel
theorem dX9_gain_12 : decode cX9_gain 12 = .ok (.irem, 1) := by decide +kernel
theorem dX9_gain_13 : decode cX9_gain 13 = .ok (.iconst 1, 1) := by decide +kernel
theorem dX9_gain_14 : decode cX9_gain 14 = .ok (.iadd, 1) := by decide +kernel
theorem dX9_gain_15 : decode cX9_gain 15 = .ok (.aload_n 0, 1) := by decide +kernel
theorem dX9_gain_16 : decode cX9_gain 16 = .ok (.iload_n 1, 1) := by decide +kernel
theorem dX9_gain_17 : decode cX9_gain 17 = .ok (.iconst 5, 1) := by decide +kernel
theorem dX9_gain_18 : decode cX9_gain 18 = .ok (.idiv, 1) := by decide +kernel
theorem dX9_gain_19 : decode cX9_gain 19 = .ok (.iconst 1, 1) := by decide +kernel
theorem dX9_gain_20 : decode cX9_gain 20 = .ok (.invokevirtual 64, 3) := by decide +kernel
theorem dX9_gain_23 : decode cX9_gain 23 = .ok (.imul, 1) := by decide +kernel
theorem dX9_gain_24 : decode cX9_gain 24 = .ok (.ireturn, 1) := by decide +kernel
set_option maxRecDepth 20000 in
theorem ggX9_worth_X9_gain : GoodIn wsX9_worth wsX9_gain := goodIn_r _ [7, 8, 9, 10, 6, 11, 1, 28, 29, 30, 31, 32, 33, 34, 35, 36, 37, 38, 39, 40, 41, 42, 43] (by decide +kernel) (by decide +kernel)
set_option maxRecDepth 20000 in
theorem gX9_worth_X9_gain : GoodIn wsX9_worth (wsV RX9 71 RX9 yX9_gain wsX9_gain) := goodIn_app (goodIn_of _ (by decide +kernel)) ggX9_worth_X9_gain
set_option maxRecDepth 20000 in
theorem ggX9_worth_X9_isPoisoned : GoodIn wsX9_worth wsX9_isPoisoned := goodIn_r _ [15, 8, 9, 10, 6, 11, 1, 16, 17, 18, 19, 20, 21, 28, 29, 30, 31, 32, 33, 34, 35, 36, 37, 38, 39, 40, 41, 42, 43] (by decide +kernel) (by decide +kernel)
set_option maxRecDepth 20000 in
theorem gX9_worth_X9_isPoisoned : GoodIn wsX9_worth (wsV RX9 74 RX9 yX9_isPoisoned wsX9_isPoisoned) := goodIn_app (goodIn_of _ (by decide +kernel)) ggX9_worth_X9_isPoisoned
set_option maxRecDepth 20000 in
theorem ggX9_worth_X9_behind : GoodIn wsX9_worth wsX9_behind := goodIn_r _ [24, 25, 26, 6, 27, 19, 20, 21] (by decide +kernel) (by decide +kernel)
set_option maxRecDepth 20000 in
theorem gX9_worth_X9_behind : GoodIn wsX9_worth (va_wsS RX9 78 yX9_behind wsX9_behind) := goodIn_app (goodIn_of _ (by decide +kernel)) ggX9_worth_X9_behind
theorem dX9_worth_0 : decode cX9_worth 0 = .ok (.aload_n 0, 1) := by decide +kernel
theorem dX9_worth_1 : decode cX9_worth 1 = .ok (.iload_n 1, 1) := by decide +kernel
theorem dX9_worth_2 : decode cX9_worth 2 = .ok (.invokevirtual 71, 3) := by decide +kernel
theorem dX9_worth_5 : decode cX9_worth 5 = .ok (.aload_n 0, 1) := by decide +kernel
theorem dX9_worth_6 : decode cX9_worth 6 = .ok (.iload_n 1, 1) := by decide +kernel
theorem dX9_worth_7 : decode cX9_worth 7 = .ok (.iload_n 2, 1) := by decide +kernel
theorem dX9_worth_8 : decode cX9_worth 8 = .ok (.invokevirtual 74, 3) := by decide +kernel
theorem dX9_worth_11 : decode cX9_worth 11 = .ok (.ifCond .eq 12, 3) := by decide +kernel
theorem dX9_worth_14 : decode cX9_worth 14 = .ok (.aload_n 0, 1) := by decide +kernel
theorem dX9_worth_15 : decode cX9_worth 15 = .ok (.getfield 7, 3) := by decide +kernel
theorem dX9_worth_18 : decode cX9_worth 18 = .ok (.iconst 1, 1) := by decide +kernel
theorem dX9_worth_19 : decode cX9_worth 19 = .ok (.iaload, 1) := by decide +kernel
theorem dX9_worth_20 : decode cX9_worth 20 = .ok (.goto 16, 3) := by decide +kernel
theorem dX9_worth_23 : decode cX9_worth 23 = .ok (.aload_n 0, 1) := by decide +kernel
theorem dX9_worth_24 : decode cX9_worth 24 = .ok (.getfield 29, 3) := by decide +kernel
theorem dX9_worth_27 : decode cX9_worth 27 = .ok (.iload_n 1, 1) := by decide +kernel
theorem dX9_worth_28 : decode cX9_worth 28 = .ok (.iload_n 2, 1) := by decide +kernel
theorem dX9_worth_29 : decode cX9_worth 29 = .ok (.iload_n 3, 1) := by decide +kernel
theorem dX9_worth_30 : decode cX9_worth 30 = .ok (.iload 4, 2) := by decide +kernel
theorem dX9_worth_32 : decode cX9_worth 32 = .ok (.invokestatic 78, 3) := by decide +kernel
theorem dX9_worth_35 : decode cX9_worth 35 = .ok (.iaload, 1) := by decide +kernel
theorem dX9_worth_36 : decode cX9_worth 36 = .ok (.isub, 1) := by decide +kernel
theorem dX9_worth_37 : decode cX9_worth 37 = .ok (.ireturn, 1) := by decide +kernel
set_option maxRecDepth 20000 in
theorem ggX9_wins_X9_isPoisoned : GoodIn wsX9_wins wsX9_isPoisoned := goodIn_r _ [6, 7, 8, 9, 5, 10, 11, 12, 13, 14, 15, 16, 17, 24, 25, 26, 27, 28, 29, 30, 31, 32, 33, 34, 35, 36, 37, 38, 39] (by decide +kernel) (by decide +kernel)
set_option maxRecDepth 20000 in
theorem gX9_wins_X9_isPoisoned : GoodIn wsX9_wins (wsV RX9 74 RX9 yX9_isPoisoned wsX9_isPoisoned) := goodIn_app (goodIn_of _ (by decide +kernel)) ggX9_wins_X9_isPoisoned
set_option maxRecDepth 20000 in
theorem ggX9_wins_X9_behind : GoodIn wsX9_wins wsX9_behind := goodIn_r _ [20, 21, 22, 5, 23, 15, 16, 17] (by decide +kernel) (by decide +kernel)
set_option maxRecDepth 20000 in
theorem gX9_wins_X9_behind : GoodIn wsX9_wins (va_wsS RX9 78 yX9_behind wsX9_behind) := goodIn_app (goodIn_of _ (by decide +kernel)) ggX9_wins_X9_behind
theorem dX9_wins_0 : decode cX9_wins 0 = .ok (.aload_n 0, 1) := by decide +kernel
theorem dX9_wins_1 : decode cX9_wins 1 = .ok (.iload_n 1, 1) := by decide +kernel
theorem dX9_wins_2 : decode cX9_wins 2 = .ok (.iload_n 2, 1) := by decide +kernel
theorem dX9_wins_3 : decode cX9_wins 3 = .ok (.invokevirtual 74, 3) := by decide +kernel
theorem dX9_wins_6 : decode cX9_wins 6 = .ok (.ifCond .ne 23, 3) := by decide +kernel
theorem dX9_wins_9 : decode cX9_wins 9 = .ok (.aload_n 0, 1) := by decide +kernel
theorem dX9_wins_10 : decode cX9_wins 10 = .ok (.getfield 32, 3) := by decide +kernel
theorem dX9_wins_13 : decode cX9_wins 13 = .ok (.iload_n 1, 1) := by decide +kernel
theorem dX9_wins_14 : decode cX9_wins 14 = .ok (.iload_n 2, 1) := by decide +kernel
theorem dX9_wins_15 : decode cX9_wins 15 = .ok (.iload_n 3, 1) := by decide +kernel
theorem dX9_wins_16 : decode cX9_wins 16 = .ok (.iload 4, 2) := by decide +kernel
theorem dX9_wins_18 : decode cX9_wins 18 = .ok (.invokestatic 78, 3) := by decide +kernel
theorem dX9_wins_21 : decode cX9_wins 21 = .ok (.baload, 1) := by decide +kernel
theorem dX9_wins_22 : decode cX9_wins 22 = .ok (.ifCond .ne 7, 3) := by decide +kernel
theorem dX9_wins_25 : decode cX9_wins 25 = .ok (.iconst 1, 1) := by decide +kernel
theorem dX9_wins_26 : decode cX9_wins 26 = .ok (.goto 4, 3) := by decide +kernel
theorem dX9_wins_29 : decode cX9_wins 29 = .ok (.iconst 0, 1) := by decide +kernel
theorem dX9_wins_30 : decode cX9_wins 30 = .ok (.ireturn, 1) := by decide +kernel
set_option maxRecDepth 20000 in
theorem ggX9_reckons_X9_can : GoodIn wsX9_reckons wsX9_can := goodIn_r _ [8, 9, 10, 11, 7, 12, 1, 13, 14, 15, 16, 17, 18, 19, 20, 21, 48, 49, 50, 51, 52, 53, 54, 55, 56, 57, 58, 59, 60, 61, 62, 63] (by decide +kernel) (by decide +kernel)
set_option maxRecDepth 20000 in
theorem gX9_reckons_X9_can : GoodIn wsX9_reckons (wsV RX9 81 RX9 yX9_can wsX9_can) := goodIn_app (goodIn_of _ (by decide +kernel)) ggX9_reckons_X9_can
set_option maxRecDepth 20000 in
theorem ggX9_reckons_X9_worth : GoodIn wsX9_reckons wsX9_worth := goodIn_r _ [25, 1, 2, 26, 27, 28, 7, 29, 30, 31, 32, 33, 34, 35, 36, 37, 16, 17, 18, 19, 20, 21, 38, 39, 40, 41, 42, 43, 48, 49, 50, 51, 52, 53, 54, 55, 56, 57, 58, 59, 60, 61, 62, 63] (by decide +kernel) (by decide +kernel)
set_option maxRecDepth 20000 in
theorem gX9_reckons_X9_worth : GoodIn wsX9_reckons (wsV RX9 85 RX9 yX9_worth wsX9_worth) := goodIn_app (goodIn_of _ (by decide +kernel)) ggX9_reckons_X9_worth
set_option maxRecDepth 20000 in
theorem ggX9_reckons_X9_wins : GoodIn wsX9_reckons wsX9_wins := goodIn_r _ [47, 3, 34, 35, 36, 7, 37, 30, 31, 32, 33, 1, 16, 17, 18, 19, 20, 21, 38, 39, 40, 41, 42, 43, 48, 49, 50, 51, 52, 53, 54, 55, 56, 57, 58, 59, 60, 61, 62, 63] (by decide +kernel) (by decide +kernel)
set_option maxRecDepth 20000 in
theorem gX9_reckons_X9_wins : GoodIn wsX9_reckons (wsV RX9 88 RX9 yX9_wins wsX9_wins) := goodIn_app (goodIn_of _ (by decide +kernel)) ggX9_reckons_X9_wins
set_option maxRecDepth 20000 in
theorem ggX9_reckons_X9_game : GoodIn wsX9_reckons wsX9_game := goodIn_r _ [43] (by decide +kernel) (by decide +kernel)
set_option maxRecDepth 20000 in
theorem gX9_reckons_X9_game : GoodIn wsX9_reckons (va_wsS RX9 67 yX9_game wsX9_game) := goodIn_app (goodIn_of _ (by decide +kernel)) ggX9_reckons_X9_game
theorem dX9_reckons_0 : decode cX9_reckons 0 = .ok (.aload_n 0, 1) := by decide +kernel
theorem dX9_reckons_1 : decode cX9_reckons 1 = .ok (.getfield 7, 3) := by decide +kernel
theorem dX9_reckons_4 : decode cX9_reckons 4 = .ok (.iconst 1, 1) := by decide +kernel
theorem dX9_reckons_5 : decode cX9_reckons 5 = .ok (.iaload, 1) := by decide +kernel
theorem dX9_reckons_6 : decode cX9_reckons 6 = .ok (.ineg, 1) := by decide +kernel
theorem dX9_reckons_7 : decode cX9_reckons 7 = .ok (.istore 5, 2) := by decide +kernel
theorem dX9_reckons_9 : decode cX9_reckons 9 = .ok (.iconst 1, 1) := by decide +kernel
theorem dX9_reckons_10 : decode cX9_reckons 10 = .ok (.istore 6, 2) := by decide +kernel
theorem dX9_reckons_12 : decode cX9_reckons 12 = .ok (.iconst 0, 1) := by decide +kernel
theorem dX9_reckons_13 : decode cX9_reckons 13 = .ok (.istore 7, 2) := by decide +kernel
theorem dX9_reckons_15 : decode cX9_reckons 15 = .ok (.iconst 0, 1) := by decide +kernel
theorem dX9_reckons_16 : decode cX9_reckons 16 = .ok (.istore 8, 2) := by decide +kernel
theorem dX9_reckons_18 : decode cX9_reckons 18 = .ok (.iload 8, 2) := by decide +kernel
theorem dX9_reckons_20 : decode cX9_reckons 20 = .ok (.bipush 21, 2) := by decide +kernel
theorem dX9_reckons_22 : decode cX9_reckons 22 = .ok (.if_icmp .ge 81, 3) := by decide +kernel
theorem dX9_reckons_25 : decode cX9_reckons 25 = .ok (.aload_n 0, 1) := by decide +kernel
theorem dX9_reckons_26 : decode cX9_reckons 26 = .ok (.iload 8, 2) := by decide +kernel
theorem dX9_reckons_28 : decode cX9_reckons 28 = .ok (.iload_n 1, 1) := by decide +kernel
theorem dX9_reckons_29 : decode cX9_reckons 29 = .ok (.iload_n 2, 1) := by decide +kernel
theorem dX9_reckons_30 : decode cX9_reckons 30 = .ok (.iload 4, 2) := by decide +kernel
theorem dX9_reckons_32 : decode cX9_reckons 32 = .ok (.invokevirtual 81, 3) := by decide +kernel
theorem dX9_reckons_35 : decode cX9_reckons 35 = .ok (.ifCond .eq 62, 3) := by decide +kernel
theorem dX9_reckons_38 : decode cX9_reckons 38 = .ok (.aload_n 0, 1) := by decide +kernel
theorem dX9_reckons_39 : decode cX9_reckons 39 = .ok (.iload 8, 2) := by decide +kernel
theorem dX9_reckons_41 : decode cX9_reckons 41 = .ok (.iload_n 1, 1) := by decide +kernel
theorem dX9_reckons_42 : decode cX9_reckons 42 = .ok (.iload_n 2, 1) := by decide +kernel
theorem dX9_reckons_43 : decode cX9_reckons 43 = .ok (.iload_n 3, 1) := by decide +kernel
theorem dX9_reckons_44 : decode cX9_reckons 44 = .ok (.invokevirtual 85, 3) := by decide +kernel
theorem dX9_reckons_47 : decode cX9_reckons 47 = .ok (.istore 9, 2) := by decide +kernel
theorem dX9_reckons_49 : decode cX9_reckons 49 = .ok (.iload 6, 2) := by decide +kernel
theorem dX9_reckons_51 : decode cX9_reckons 51 = .ok (.ifCond .ne 10, 3) := by decide +kernel
theorem dX9_reckons_54 : decode cX9_reckons 54 = .ok (.iload 9, 2) := by decide +kernel
theorem dX9_reckons_56 : decode cX9_reckons 56 = .ok (.iload 5, 2) := by decide +kernel
theorem dX9_reckons_58 : decode cX9_reckons 58 = .ok (.if_icmp .le 8, 3) := by decide +kernel
theorem dX9_reckons_61 : decode cX9_reckons 61 = .ok (.iload 9, 2) := by decide +kernel
theorem dX9_reckons_63 : decode cX9_reckons 63 = .ok (.goto 5, 3) := by decide +kernel
theorem dX9_reckons_66 : decode cX9_reckons 66 = .ok (.iload 5, 2) := by decide +kernel
theorem dX9_reckons_68 : decode cX9_reckons 68 = .ok (.istore 5, 2) := by decide +kernel
theorem dX9_reckons_70 : decode cX9_reckons 70 = .ok (.iconst 0, 1) := by decide +kernel
theorem dX9_reckons_71 : decode cX9_reckons 71 = .ok (.istore 6, 2) := by decide +kernel
theorem dX9_reckons_73 : decode cX9_reckons 73 = .ok (.iload 7, 2) := by decide +kernel
theorem dX9_reckons_75 : decode cX9_reckons 75 = .ok (.ifCond .ne 15, 3) := by decide +kernel
theorem dX9_reckons_78 : decode cX9_reckons 78 = .ok (.aload_n 0, 1) := by decide +kernel
theorem dX9_reckons_79 : decode cX9_reckons 79 = .ok (.iload 8, 2) := by decide +kernel
theorem dX9_reckons_81 : decode cX9_reckons 81 = .ok (.iload_n 1, 1) := by decide +kernel
theorem dX9_reckons_82 : decode cX9_reckons 82 = .ok (.iload_n 2, 1) := by decide +kernel
theorem dX9_reckons_83 : decode cX9_reckons 83 = .ok (.iload_n 3, 1) := by decide +kernel
theorem dX9_reckons_84 : decode cX9_reckons 84 = .ok (.invokevirtual 88, 3) := by decide +kernel
theorem dX9_reckons_87 : decode cX9_reckons 87 = .ok (.ifCond .eq 7, 3) := by decide +kernel
theorem dX9_reckons_90 : decode cX9_reckons 90 = .ok (.iconst 1, 1) := by decide +kernel
theorem dX9_reckons_91 : decode cX9_reckons 91 = .ok (.goto 4, 3) := by decide +kernel
theorem dX9_reckons_94 : decode cX9_reckons 94 = .ok (.iconst 0, 1) := by decide +kernel
theorem dX9_reckons_95 : decode cX9_reckons 95 = .ok (.istore 7, 2) := by decide +kernel
theorem dX9_reckons_97 : decode cX9_reckons 97 = .ok (.iinc 8 1, 3) := by decide +kernel
theorem dX9_reckons_100 : decode cX9_reckons 100 = .ok (.goto (-82), 3) := by decide +kernel
theorem dX9_reckons_103 : decode cX9_reckons 103 = .ok (.aload_n 0, 1) := by decide +kernel
theorem dX9_reckons_104 : decode cX9_reckons 104 = .ok (.getfield 29, 3) := by decide +kernel
theorem dX9_reckons_107 : decode cX9_reckons 107 = .ok (.iload_n 1, 1) := by decide +kernel
theorem dX9_reckons_108 : decode cX9_reckons 108 = .ok (.iload_n 2, 1) := by decide +kernel
theorem dX9_reckons_109 : decode cX9_reckons 109 = .ok (.iload_n 3, 1) := by decide +kernel
theorem dX9_reckons_110 : decode cX9_reckons 110 = .ok (.iload 4, 2) := by decide +kernel
theorem dX9_reckons_112 : decode cX9_reckons 112 = .ok (.invokestatic 67, 3) := by decide +kernel
theorem dX9_reckons_115 : decode cX9_reckons 115 = .ok (.iload 5, 2) := by decide +kernel
theorem dX9_reckons_117 : decode cX9_reckons 117 = .ok (.iastore, 1) := by decide +kernel
theorem dX9_reckons_118 : decode cX9_reckons 118 = .ok (.aload_n 0, 1) := by decide +kernel
theorem dX9_reckons_119 : decode cX9_reckons 119 = .ok (.getfield 32, 3) := by decide +kernel
theorem dX9_reckons_122 : decode cX9_reckons 122 = .ok (.iload_n 1, 1) := by decide +kernel
theorem dX9_reckons_123 : decode cX9_reckons 123 = .ok (.iload_n 2, 1) := by decide +kernel
theorem dX9_reckons_124 : decode cX9_reckons 124 = .ok (.iload_n 3, 1) := by decide +kernel
theorem dX9_reckons_125 : decode cX9_reckons 125 = .ok (.iload 4, 2) := by decide +kernel
theorem dX9_reckons_127 : decode cX9_reckons 127 = .ok (.invokestatic 67, 3) := by decide +kernel
theorem dX9_reckons_130 : decode cX9_reckons 130 = .ok (.iload 7, 2) := by decide +kernel
theorem dX9_reckons_132 : decode cX9_reckons 132 = .ok (.bastore, 1) := by decide +kernel
theorem dX9_reckons_133 : decode cX9_reckons 133 = .ok (.return_, 1) := by decide +kernel
set_option maxRecDepth 20000 in
theorem ggX9_isBelow_X9_tokensIn : GoodIn wsX9_isBelow wsX9_tokensIn := goodIn_r _ [4, 5, 6, 3, 7] (by decide +kernel) (by decide +kernel)
set_option maxRecDepth 20000 in
theorem gX9_isBelow_X9_tokensIn : GoodIn wsX9_isBelow (va_wsS RX9 60 yX9_tokensIn wsX9_tokensIn) := goodIn_app (goodIn_of _ (by decide +kernel)) ggX9_isBelow_X9_tokensIn
set_option maxRecDepth 20000 in
theorem ggX9_isBelow_X9_of : GoodIn wsX9_isBelow wsX9_of := goodIn_r _ [11, 12, 13, 14, 15, 16, 17, 18, 19, 20, 21, 22, 23, 24, 25, 26, 27, 28] (by decide +kernel) (by decide +kernel)
set_option maxRecDepth 20000 in
theorem gX9_isBelow_X9_of : GoodIn wsX9_isBelow (wsV RX9 64 RX9 yX9_of wsX9_of) := goodIn_app (goodIn_of _ (by decide +kernel)) ggX9_isBelow_X9_of
theorem dX9_isBelow_0 : decode cX9_isBelow 0 = .ok (.iconst 1, 1) := by decide +kernel
theorem dX9_isBelow_1 : decode cX9_isBelow 1 = .ok (.istore_n 2, 1) := by decide +kernel
theorem dX9_isBelow_2 : decode cX9_isBelow 2 = .ok (.iconst 0, 1) := by decide +kernel
theorem dX9_isBelow_3 : decode cX9_isBelow 3 = .ok (.istore_n 3, 1) := by decide +kernel
theorem dX9_isBelow_4 : decode cX9_isBelow 4 = .ok (.iload_n 3, 1) := by decide +kernel
theorem dX9_isBelow_5 : decode cX9_isBelow 5 = .ok (.iconst 4, 1) := by decide +kernel
theorem dX9_isBelow_6 : decode cX9_isBelow 6 = .ok (.if_icmp .ge 33, 3) := by decide +kernel
theorem dX9_isBelow_9 : decode cX9_isBelow 9 = .ok (.iload_n 2, 1) := by decide +kernel
theorem dX9_isBelow_10 : decode cX9_isBelow 10 = .ok (.ifCond .eq 21, 3) := by decide +kernel
theorem dX9_isBelow_13 : decode cX9_isBelow 13 = .ok (.iload_n 1, 1) := by decide +kernel
theorem dX9_isBelow_14 : decode cX9_isBelow 14 = .ok (.iload_n 3, 1) := by decide +kernel
theorem dX9_isBelow_15 : decode cX9_isBelow 15 = .ok (.invokestatic 60, 3) := by decide +kernel
theorem dX9_isBelow_18 : decode cX9_isBelow 18 = .ok (.aload_n 0, 1) := by decide +kernel
theorem dX9_isBelow_19 : decode cX9_isBelow 19 = .ok (.iload_n 3, 1) := by decide +kernel
theorem dX9_isBelow_20 : decode cX9_isBelow 20 = .ok (.iconst 0, 1) := by decide +kernel
theorem dX9_isBelow_21 : decode cX9_isBelow 21 = .ok (.invokevirtual 64, 3) := by decide +kernel
theorem dX9_isBelow_24 : decode cX9_isBelow 24 = .ok (.if_icmp .gt 7, 3) := by decide +kernel
theorem dX9_isBelow_27 : decode cX9_isBelow 27 = .ok (.iconst 1, 1) := by decide +kernel
theorem dX9_isBelow_28 : decode cX9_isBelow 28 = .ok (.goto 4, 3) := by decide +kernel
theorem dX9_isBelow_31 : decode cX9_isBelow 31 = .ok (.iconst 0, 1) := by decide +kernel
theorem dX9_isBelow_32 : decode cX9_isBelow 32 = .ok (.istore_n 2, 1) := by decide +kernel
theorem dX9_isBelow_33 : decode cX9_isBelow 33 = .ok (.iinc 3 1, 3) := by decide +kernel
theorem dX9_isBelow_36 : decode cX9_isBelow 36 = .ok (.goto (-32), 3) := by decide +kernel
theorem dX9_isBelow_39 : decode cX9_isBelow 39 = .ok (.iload_n 2, 1) := by decide +kernel
theorem dX9_isBelow_40 : decode cX9_isBelow 40 = .ok (.ireturn, 1) := by decide +kernel
set_option maxRecDepth 20000 in
theorem ggX9_reckonsCode_X9_in : GoodIn wsX9_reckonsCode wsX9_in := goodIn_r _ [4] (by decide +kernel) (by decide +kernel)
set_option maxRecDepth 20000 in
theorem gX9_reckonsCode_X9_in : GoodIn wsX9_reckonsCode (va_wsS RX9 45 yX9_in wsX9_in) := goodIn_app (goodIn_of _ (by decide +kernel)) ggX9_reckonsCode_X9_in
set_option maxRecDepth 20000 in
theorem ggX9_reckonsCode_X9_reckons : GoodIn wsX9_reckonsCode wsX9_reckons := goodIn_r _ [8, 9, 10, 11, 12, 13, 14, 3, 15, 16, 17, 18, 19, 1, 2, 4, 20, 21, 22, 23, 24, 25, 26, 27, 28, 29, 30, 31, 32, 33, 34, 35, 36, 37, 38, 39, 40, 41, 42, 43, 44, 45, 46, 47, 48, 49, 50, 51, 52, 53, 54, 55, 56, 57, 58, 59, 60, 61, 62, 63, 64, 65, 66, 67] (by decide +kernel) (by decide +kernel)
set_option maxRecDepth 20000 in
theorem gX9_reckonsCode_X9_reckons : GoodIn wsX9_reckonsCode (wsV RX9 91 RX9 yX9_reckons wsX9_reckons) := goodIn_app (goodIn_of _ (by decide +kernel)) ggX9_reckonsCode_X9_reckons
theorem dX9_reckonsCode_0 : decode cX9_reckonsCode 0 = .ok (.iconst 0, 1) := by decide +kernel
theorem dX9_reckonsCode_1 : decode cX9_reckonsCode 1 = .ok (.istore_n 2, 1) := by decide +kernel
theorem dX9_reckonsCode_2 : decode cX9_reckonsCode 2 = .ok (.iload_n 2, 1) := by decide +kernel
theorem dX9_reckonsCode_3 : decode cX9_reckonsCode 3 = .ok (.iconst 4, 1) := by decide +kernel
theorem dX9_reckonsCode_4 : decode cX9_reckonsCode 4 = .ok (.if_icmp .gt 53, 3) := by decide +kernel
theorem dX9_reckonsCode_7 : decode cX9_reckonsCode 7 = .ok (.iconst 0, 1) := by decide +kernel
theorem dX9_reckonsCode_8 : decode cX9_reckonsCode 8 = .ok (.istore_n 3, 1) := by decide +kernel
theorem dX9_reckonsCode_9 : decode cX9_reckonsCode 9 = .ok (.iload_n 3, 1) := by decide +kernel
theorem dX9_reckonsCode_10 : decode cX9_reckonsCode 10 = .ok (.iconst 2, 1) := by decide +kernel
theorem dX9_reckonsCode_11 : decode cX9_reckonsCode 11 = .ok (.if_icmp .gt 40, 3) := by decide +kernel
theorem dX9_reckonsCode_14 : decode cX9_reckonsCode 14 = .ok (.iload_n 2, 1) := by decide +kernel
theorem dX9_reckonsCode_15 : decode cX9_reckonsCode 15 = .ok (.iload_n 3, 1) := by decide +kernel
theorem dX9_reckonsCode_16 : decode cX9_reckonsCode 16 = .ok (.isub, 1) := by decide +kernel
theorem dX9_reckonsCode_17 : decode cX9_reckonsCode 17 = .ok (.iconst 0, 1) := by decide +kernel
theorem dX9_reckonsCode_18 : decode cX9_reckonsCode 18 = .ok (.iconst 2, 1) := by decide +kernel
theorem dX9_reckonsCode_19 : decode cX9_reckonsCode 19 = .ok (.invokestatic 45, 3) := by decide +kernel
theorem dX9_reckonsCode_22 : decode cX9_reckonsCode 22 = .ok (.ifCond .eq 23, 3) := by decide +kernel
theorem dX9_reckonsCode_25 : decode cX9_reckonsCode 25 = .ok (.aload_n 0, 1) := by decide +kernel
theorem dX9_reckonsCode_26 : decode cX9_reckonsCode 26 = .ok (.iload_n 1, 1) := by decide +kernel
theorem dX9_reckonsCode_27 : decode cX9_reckonsCode 27 = .ok (.iload_n 3, 1) := by decide +kernel
theorem dX9_reckonsCode_28 : decode cX9_reckonsCode 28 = .ok (.iload_n 2, 1) := by decide +kernel
theorem dX9_reckonsCode_29 : decode cX9_reckonsCode 29 = .ok (.iload_n 3, 1) := by decide +kernel
theorem dX9_reckonsCode_30 : decode cX9_reckonsCode 30 = .ok (.isub, 1) := by decide +kernel
theorem dX9_reckonsCode_31 : decode cX9_reckonsCode 31 = .ok (.iconst 0, 1) := by decide +kernel
theorem dX9_reckonsCode_32 : decode cX9_reckonsCode 32 = .ok (.invokevirtual 91, 3) := by decide +kernel
theorem dX9_reckonsCode_35 : decode cX9_reckonsCode 35 = .ok (.aload_n 0, 1) := by decide +kernel
theorem dX9_reckonsCode_36 : decode cX9_reckonsCode 36 = .ok (.iload_n 1, 1) := by decide +kernel
theorem dX9_reckonsCode_37 : decode cX9_reckonsCode 37 = .ok (.iload_n 3, 1) := by decide +kernel
theorem dX9_reckonsCode_38 : decode cX9_reckonsCode 38 = .ok (.iload_n 2, 1) := by decide +kernel
theorem dX9_reckonsCode_39 : decode cX9_reckonsCode 39 = .ok (.iload_n 3, 1) := by decide +kernel
theorem dX9_reckonsCode_40 : decode cX9_reckonsCode 40 = .ok (.isub, 1) := by decide +kernel
theorem dX9_reckonsCode_41 : decode cX9_reckonsCode 41 = .ok (.iconst 1, 1) := by decide +kernel
theorem dX9_reckonsCode_42 : decode cX9_reckonsCode 42 = .ok (.invokevirtual 91, 3) := by decide +kernel
theorem dX9_reckonsCode_45 : decode cX9_reckonsCode 45 = .ok (.iinc 3 1, 3) := by decide +kernel
theorem dX9_reckonsCode_48 : decode cX9_reckonsCode 48 = .ok (.goto (-39), 3) := by decide +kernel
theorem dX9_reckonsCode_51 : decode cX9_reckonsCode 51 = .ok (.iinc 2 1, 3) := by decide +kernel
theorem dX9_reckonsCode_54 : decode cX9_reckonsCode 54 = .ok (.goto (-52), 3) := by decide +kernel
theorem dX9_reckonsCode_57 : decode cX9_reckonsCode 57 = .ok (.return_, 1) := by decide +kernel
set_option maxRecDepth 20000 in
theorem ggX9_reckonsAll_X9_isBelow : GoodIn wsX9_reckonsAll wsX9_isBelow := goodIn_r _ [5, 6, 7, 4, 8, 9, 10, 11, 12, 13, 14, 15, 16, 60, 61, 62, 63, 64, 65, 66, 67, 68, 69, 70, 71, 72, 73, 74, 75] (by decide +kernel) (by decide +kernel)
set_option maxRecDepth 20000 in
theorem gX9_reckonsAll_X9_isBelow : GoodIn wsX9_reckonsAll (wsV RX9 95 RX9 yX9_isBelow wsX9_isBelow) := goodIn_app (goodIn_of _ (by decide +kernel)) ggX9_reckonsAll_X9_isBelow
set_option maxRecDepth 20000 in
theorem ggX9_reckonsAll_X9_reckonsCode : GoodIn wsX9_reckonsAll wsX9_reckonsCode := goodIn_r _ [20, 21, 22, 4, 23, 24, 25, 26, 27, 16, 28, 29, 30, 31, 32, 33, 34, 35, 36, 37, 6, 7, 8, 9, 10, 11, 38, 39, 40, 41, 42, 43, 44, 45, 12, 13, 14, 15, 46, 47, 48, 49, 50, 51, 52, 53, 54, 55, 56, 57, 58, 59, 60, 61, 62, 63, 64, 65, 66, 67, 68, 69, 70, 71, 72, 73, 74, 75] (by decide +kernel) (by decide +kernel)
set_option maxRecDepth 20000 in
theorem gX9_reckonsAll_X9_reckonsCode : GoodIn wsX9_reckonsAll (wsV RX9 98 RX9 yX9_reckonsCode wsX9_reckonsCode) := goodIn_app (goodIn_of _ (by decide +kernel)) ggX9_reckonsAll_X9_reckonsCode
theorem dX9_reckonsAll_0 : decode cX9_reckonsAll 0 = .ok (.iconst 0, 1) := by decide +kernel
theorem dX9_reckonsAll_1 : decode cX9_reckonsAll 1 = .ok (.istore_n 1, 1) := by decide +kernel
theorem dX9_reckonsAll_2 : decode cX9_reckonsAll 2 = .ok (.iload_n 1, 1) := by decide +kernel
theorem dX9_reckonsAll_3 : decode cX9_reckonsAll 3 = .ok (.sipush 1296, 3) := by decide +kernel
theorem dX9_reckonsAll_6 : decode cX9_reckonsAll 6 = .ok (.if_icmp .ge 22, 3) := by decide +kernel
theorem dX9_reckonsAll_9 : decode cX9_reckonsAll 9 = .ok (.aload_n 0, 1) := by decide +kernel
theorem dX9_reckonsAll_10 : decode cX9_reckonsAll 10 = .ok (.iload_n 1, 1) := by decide +kernel
theorem dX9_reckonsAll_11 : decode cX9_reckonsAll 11 = .ok (.invokevirtual 95, 3) := by decide +kernel
theorem dX9_reckonsAll_14 : decode cX9_reckonsAll 14 = .ok (.ifCond .eq 8, 3) := by decide +kernel
theorem dX9_reckonsAll_17 : decode cX9_reckonsAll 17 = .ok (.aload_n 0, 1) := by decide +kernel
theorem dX9_reckonsAll_18 : decode cX9_reckonsAll 18 = .ok (.iload_n 1, 1) := by decide +kernel
theorem dX9_reckonsAll_19 : decode cX9_reckonsAll 19 = .ok (.invokevirtual 98, 3) := by decide +kernel
theorem dX9_reckonsAll_22 : decode cX9_reckonsAll 22 = .ok (.iinc 1 1, 3) := by decide +kernel
theorem dX9_reckonsAll_25 : decode cX9_reckonsAll 25 = .ok (.goto (-23), 3) := by decide +kernel
theorem dX9_reckonsAll_28 : decode cX9_reckonsAll 28 = .ok (.return_, 1) := by decide +kernel
set_option maxRecDepth 20000 in
theorem ggX9_code_X9_unit : GoodIn wsX9_code wsX9_unit := goodIn_r _ [4] (by decide +kernel) (by decide +kernel)
set_option maxRecDepth 20000 in
theorem gX9_code_X9_unit : GoodIn wsX9_code (va_wsS RX9 52 yX9_unit wsX9_unit) := goodIn_app (goodIn_of _ (by decide +kernel)) ggX9_code_X9_unit
set_option maxRecDepth 20000 in
theorem ggX9_code_X9_of : GoodIn wsX9_code wsX9_of := goodIn_r _ [8, 9, 10, 11, 12, 13, 14, 15, 16, 17, 18, 19, 20, 21, 22, 23, 24, 25] (by decide +kernel) (by decide +kernel)
set_option maxRecDepth 20000 in
theorem gX9_code_X9_of : GoodIn wsX9_code (wsV RX9 64 RX9 yX9_of wsX9_of) := goodIn_app (goodIn_of _ (by decide +kernel)) ggX9_code_X9_of
theorem dX9_code_0 : decode cX9_code 0 = .ok (.iconst 0, 1) := by decide +kernel
theorem dX9_code_1 : decode cX9_code 1 = .ok (.istore_n 1, 1) := by decide +kernel
theorem dX9_code_2 : decode cX9_code 2 = .ok (.iconst 0, 1) := by decide +kernel
theorem dX9_code_3 : decode cX9_code 3 = .ok (.istore_n 2, 1) := by decide +kernel
theorem dX9_code_4 : decode cX9_code 4 = .ok (.iload_n 2, 1) := by decide +kernel
theorem dX9_code_5 : decode cX9_code 5 = .ok (.iconst 4, 1) := by decide +kernel
theorem dX9_code_6 : decode cX9_code 6 = .ok (.if_icmp .ge 23, 3) := by decide +kernel
theorem dX9_code_9 : decode cX9_code 9 = .ok (.iload_n 1, 1) := by decide +kernel
theorem dX9_code_10 : decode cX9_code 10 = .ok (.iload_n 2, 1) := by decide +kernel
theorem dX9_code_11 : decode cX9_code 11 = .ok (.invokestatic 52, 3) := by decide +kernel
theorem dX9_code_14 : decode cX9_code 14 = .ok (.aload_n 0, 1) := by decide +kernel
theorem dX9_code_15 : decode cX9_code 15 = .ok (.iload_n 2, 1) := by decide +kernel
theorem dX9_code_16 : decode cX9_code 16 = .ok (.iconst 0, 1) := by decide +kernel
theorem dX9_code_17 : decode cX9_code 17 = .ok (.invokevirtual 64, 3) := by decide +kernel
theorem dX9_code_20 : decode cX9_code 20 = .ok (.imul, 1) := by decide +kernel
theorem dX9_code_21 : decode cX9_code 21 = .ok (.iadd, 1) := by decide +kernel
theorem dX9_code_22 : decode cX9_code 22 = .ok (.istore_n 1, 1) := by decide +kernel
theorem dX9_code_23 : decode cX9_code 23 = .ok (.iinc 2 1, 3) := by decide +kernel
theorem dX9_code_26 : decode cX9_code 26 = .ok (.goto (-22), 3) := by decide +kernel
theorem dX9_code_29 : decode cX9_code 29 = .ok (.iload_n 1, 1) := by decide +kernel
theorem dX9_code_30 : decode cX9_code 30 = .ok (.ireturn, 1) := by decide +kernel
theorem dX9_own_0 : decode cX9_own 0 = .ok (.aload_n 0, 1) := by decide +kernel
theorem dX9_own_1 : decode cX9_own 1 = .ok (.getfield 7, 3) := by decide +kernel
theorem dX9_own_4 : decode cX9_own 4 = .ok (.bipush 7, 2) := by decide +kernel
theorem dX9_own_6 : decode cX9_own 6 = .ok (.aload_n 0, 1) := by decide +kernel
theorem dX9_own_7 : decode cX9_own 7 = .ok (.getfield 7, 3) := by decide +kernel
theorem dX9_own_10 : decode cX9_own 10 = .ok (.iconst 3, 1) := by decide +kernel
theorem dX9_own_11 : decode cX9_own 11 = .ok (.iaload, 1) := by decide +kernel
theorem dX9_own_12 : decode cX9_own 12 = .ok (.iadd, 1) := by decide +kernel
theorem dX9_own_13 : decode cX9_own 13 = .ok (.iaload, 1) := by decide +kernel
theorem dX9_own_14 : decode cX9_own 14 = .ok (.ireturn, 1) := by decide +kernel
theorem dX9_others_0 : decode cX9_others 0 = .ok (.aload_n 0, 1) := by decide +kernel
theorem dX9_others_1 : decode cX9_others 1 = .ok (.getfield 7, 3) := by decide +kernel
theorem dX9_others_4 : decode cX9_others 4 = .ok (.bipush 8, 2) := by decide +kernel
theorem dX9_others_6 : decode cX9_others 6 = .ok (.aload_n 0, 1) := by decide +kernel
theorem dX9_others_7 : decode cX9_others 7 = .ok (.getfield 7, 3) := by decide +kernel
theorem dX9_others_10 : decode cX9_others 10 = .ok (.iconst 3, 1) := by decide +kernel
theorem dX9_others_11 : decode cX9_others 11 = .ok (.iaload, 1) := by decide +kernel
theorem dX9_others_12 : decode cX9_others 12 = .ok (.isub, 1) := by decide +kernel
theorem dX9_others_13 : decode cX9_others 13 = .ok (.iaload, 1) := by decide +kernel
theorem dX9_others_14 : decode cX9_others 14 = .ok (.ireturn, 1) := by decide +kernel
set_option maxRecDepth 20000 in
theorem ggX9_movesNow_X9_code : GoodIn wsX9_movesNow wsX9_code := goodIn_r _ [6, 7, 8, 5, 9, 10, 11, 12, 13, 1, 32, 33, 34, 35, 36, 37, 38, 39, 40, 41, 42, 43, 44, 45, 46, 47] (by decide +kernel) (by decide +kernel)
set_option maxRecDepth 20000 in
theorem gX9_movesNow_X9_code : GoodIn wsX9_movesNow (wsV RX9 102 RX9 yX9_code wsX9_code) := goodIn_app (goodIn_of _ (by decide +kernel)) ggX9_movesNow_X9_code
set_option maxRecDepth 20000 in
theorem ggX9_movesNow_X9_own : GoodIn wsX9_movesNow wsX9_own := goodIn_r _ [17, 1, 32, 33, 34, 35, 36, 37, 38, 39, 40, 41, 42, 43, 44, 45, 46, 47] (by decide +kernel) (by decide +kernel)
set_option maxRecDepth 20000 in
theorem gX9_movesNow_X9_own : GoodIn wsX9_movesNow (wsV RX9 106 RX9 yX9_own wsX9_own) := goodIn_app (goodIn_of _ (by decide +kernel)) ggX9_movesNow_X9_own
set_option maxRecDepth 20000 in
theorem ggX9_movesNow_X9_can : GoodIn wsX9_movesNow wsX9_can := goodIn_r _ [21, 22, 23, 24, 5, 25, 1, 26, 27, 28, 29, 30, 31, 7, 8, 9, 32, 33, 34, 35, 36, 37, 38, 39, 40, 41, 42, 43, 44, 45, 46, 47] (by decide +kernel) (by decide +kernel)
set_option maxRecDepth 20000 in
theorem gX9_movesNow_X9_can : GoodIn wsX9_movesNow (wsV RX9 81 RX9 yX9_can wsX9_can) := goodIn_app (goodIn_of _ (by decide +kernel)) ggX9_movesNow_X9_can
theorem dX9_movesNow_0 : decode cX9_movesNow 0 = .ok (.iconst 0, 1) := by decide +kernel
theorem dX9_movesNow_1 : decode cX9_movesNow 1 = .ok (.istore_n 1, 1) := by decide +kernel
theorem dX9_movesNow_2 : decode cX9_movesNow 2 = .ok (.aload_n 0, 1) := by decide +kernel
theorem dX9_movesNow_3 : decode cX9_movesNow 3 = .ok (.invokevirtual 102, 3) := by decide +kernel
theorem dX9_movesNow_6 : decode cX9_movesNow 6 = .ok (.istore_n 2, 1) := by decide +kernel
theorem dX9_movesNow_7 : decode cX9_movesNow 7 = .ok (.iconst 0, 1) := by decide +kernel
theorem dX9_movesNow_8 : decode cX9_movesNow 8 = .ok (.istore_n 3, 1) := by decide +kernel
theorem dX9_movesNow_9 : decode cX9_movesNow 9 = .ok (.iload_n 3, 1) := by decide +kernel
theorem dX9_movesNow_10 : decode cX9_movesNow 10 = .ok (.bipush 21, 2) := by decide +kernel
theorem dX9_movesNow_12 : decode cX9_movesNow 12 = .ok (.if_icmp .ge 47, 3) := by decide +kernel
theorem dX9_movesNow_15 : decode cX9_movesNow 15 = .ok (.aload_n 0, 1) := by decide +kernel
theorem dX9_movesNow_16 : decode cX9_movesNow 16 = .ok (.getfield 7, 3) := by decide +kernel
theorem dX9_movesNow_19 : decode cX9_movesNow 19 = .ok (.iconst 5, 1) := by decide +kernel
theorem dX9_movesNow_20 : decode cX9_movesNow 20 = .ok (.iaload, 1) := by decide +kernel
theorem dX9_movesNow_21 : decode cX9_movesNow 21 = .ok (.ifCond .ne 38, 3) := by decide +kernel
theorem dX9_movesNow_24 : decode cX9_movesNow 24 = .ok (.iload_n 1, 1) := by decide +kernel
theorem dX9_movesNow_25 : decode cX9_movesNow 25 = .ok (.aload_n 0, 1) := by decide +kernel
theorem dX9_movesNow_26 : decode cX9_movesNow 26 = .ok (.iload_n 3, 1) := by decide +kernel
theorem dX9_movesNow_27 : decode cX9_movesNow 27 = .ok (.iload_n 2, 1) := by decide +kernel
theorem dX9_movesNow_28 : decode cX9_movesNow 28 = .ok (.aload_n 0, 1) := by decide +kernel
theorem dX9_movesNow_29 : decode cX9_movesNow 29 = .ok (.invokevirtual 106, 3) := by decide +kernel
theorem dX9_movesNow_32 : decode cX9_movesNow 32 = .ok (.aload_n 0, 1) := by decide +kernel
theorem dX9_movesNow_33 : decode cX9_movesNow 33 = .ok (.getfield 7, 3) := by decide +kernel
theorem dX9_movesNow_36 : decode cX9_movesNow 36 = .ok (.iconst 4, 1) := by decide +kernel
theorem dX9_movesNow_37 : decode cX9_movesNow 37 = .ok (.iaload, 1) := by decide +kernel
theorem dX9_movesNow_38 : decode cX9_movesNow 38 = .ok (.invokevirtual 81, 3) := by decide +kernel
theorem dX9_movesNow_41 : decode cX9_movesNow 41 = .ok (.ifCond .eq 9, 3) := by decide +kernel
theorem dX9_movesNow_44 : decode cX9_movesNow 44 = .ok (.iconst 1, 1) := by decide +kernel
theorem dX9_movesNow_45 : decode cX9_movesNow 45 = .ok (.iload_n 3, 1) := by decide +kernel
theorem dX9_movesNow_46 : decode cX9_movesNow 46 = .ok (.ishl, 1) := by decide +kernel
theorem dX9_movesNow_47 : decode cX9_movesNow 47 = .ok (.goto 4, 3) := by decide +kernel
theorem dX9_movesNow_50 : decode cX9_movesNow 50 = .ok (.iconst 0, 1) := by decide +kernel
theorem dX9_movesNow_51 : decode cX9_movesNow 51 = .ok (.ior, 1) := by decide +kernel
theorem dX9_movesNow_52 : decode cX9_movesNow 52 = .ok (.istore_n 1, 1) := by decide +kernel
theorem dX9_movesNow_53 : decode cX9_movesNow 53 = .ok (.iinc 3 1, 3) := by decide +kernel
theorem dX9_movesNow_56 : decode cX9_movesNow 56 = .ok (.goto (-47), 3) := by decide +kernel
theorem dX9_movesNow_59 : decode cX9_movesNow 59 = .ok (.iload_n 1, 1) := by decide +kernel
theorem dX9_movesNow_60 : decode cX9_movesNow 60 = .ok (.ireturn, 1) := by decide +kernel
set_option maxRecDepth 20000 in
theorem ggX9_isOver_X9_movesNow : GoodIn wsX9_isOver wsX9_movesNow := goodIn_r _ [5, 6, 7, 8, 9, 4, 10, 11, 12, 13, 14, 15, 16, 17, 18, 19, 20, 21, 22, 23, 24, 25, 26, 27, 28, 29, 30, 31, 32, 33, 34, 35, 36, 37, 38, 39, 40, 41, 42, 43, 44, 45, 46, 47, 48, 49, 50, 51] (by decide +kernel) (by decide +kernel)
set_option maxRecDepth 20000 in
theorem gX9_isOver_X9_movesNow : GoodIn wsX9_isOver (wsV RX9 109 RX9 yX9_movesNow wsX9_movesNow) := goodIn_app (goodIn_of _ (by decide +kernel)) ggX9_isOver_X9_movesNow
theorem dX9_isOver_0 : decode cX9_isOver 0 = .ok (.aload_n 0, 1) := by decide +kernel
theorem dX9_isOver_1 : decode cX9_isOver 1 = .ok (.invokevirtual 109, 3) := by decide +kernel
theorem dX9_isOver_4 : decode cX9_isOver 4 = .ok (.ifCond .ne 7, 3) := by decide +kernel
theorem dX9_isOver_7 : decode cX9_isOver 7 = .ok (.iconst 1, 1) := by decide +kernel
theorem dX9_isOver_8 : decode cX9_isOver 8 = .ok (.goto 4, 3) := by decide +kernel
theorem dX9_isOver_11 : decode cX9_isOver 11 = .ok (.iconst 0, 1) := by decide +kernel
theorem dX9_isOver_12 : decode cX9_isOver 12 = .ok (.ireturn, 1) := by decide +kernel
set_option maxRecDepth 20000 in
theorem ggX9_winner_X9_isOver : GoodIn wsX9_winner wsX9_isOver := goodIn_r _ [6, 7, 8, 9, 5, 10, 1, 11, 12, 13, 14, 15, 16, 17, 18, 19, 20, 21, 22, 23, 24, 25, 26, 27, 28, 29, 30, 31, 32, 33, 34, 35, 36, 37, 38, 39, 40, 41, 42, 43, 44, 45, 46, 47, 48, 49, 50, 51, 52, 53, 54, 55] (by decide +kernel) (by decide +kernel)
set_option maxRecDepth 20000 in
theorem gX9_winner_X9_isOver : GoodIn wsX9_winner (wsV RX9 112 RX9 yX9_isOver wsX9_isOver) := goodIn_app (goodIn_of _ (by decide +kernel)) ggX9_winner_X9_isOver
theorem dX9_winner_0 : decode cX9_winner 0 = .ok (.aload_n 0, 1) := by decide +kernel
theorem dX9_winner_1 : decode cX9_winner 1 = .ok (.invokevirtual 112, 3) := by decide +kernel
theorem dX9_winner_4 : decode cX9_winner 4 = .ok (.ifCond .ne 8, 3) := by decide +kernel
theorem dX9_winner_7 : decode cX9_winner 7 = .ok (.bipush (-6), 2) := by decide +kernel
theorem dX9_winner_9 : decode cX9_winner 9 = .ok (.goto 30, 3) := by decide +kernel
theorem dX9_winner_12 : decode cX9_winner 12 = .ok (.aload_n 0, 1) := by decide +kernel
theorem dX9_winner_13 : decode cX9_winner 13 = .ok (.getfield 7, 3) := by decide +kernel
theorem dX9_winner_16 : decode cX9_winner 16 = .ok (.iconst 5, 1) := by decide +kernel
theorem dX9_winner_17 : decode cX9_winner 17 = .ok (.iaload, 1) := by decide +kernel
theorem dX9_winner_18 : decode cX9_winner 18 = .ok (.iconst 1, 1) := by decide +kernel
theorem dX9_winner_19 : decode cX9_winner 19 = .ok (.if_icmp .ne 12, 3) := by decide +kernel
theorem dX9_winner_22 : decode cX9_winner 22 = .ok (.aload_n 0, 1) := by decide +kernel
theorem dX9_winner_23 : decode cX9_winner 23 = .ok (.getfield 7, 3) := by decide +kernel
theorem dX9_winner_26 : decode cX9_winner 26 = .ok (.iconst 3, 1) := by decide +kernel
theorem dX9_winner_27 : decode cX9_winner 27 = .ok (.iaload, 1) := by decide +kernel
theorem dX9_winner_28 : decode cX9_winner 28 = .ok (.goto 11, 3) := by decide +kernel
theorem dX9_winner_31 : decode cX9_winner 31 = .ok (.iconst 1, 1) := by decide +kernel
theorem dX9_winner_32 : decode cX9_winner 32 = .ok (.aload_n 0, 1) := by decide +kernel
theorem dX9_winner_33 : decode cX9_winner 33 = .ok (.getfield 7, 3) := by decide +kernel
theorem dX9_winner_36 : decode cX9_winner 36 = .ok (.iconst 3, 1) := by decide +kernel
theorem dX9_winner_37 : decode cX9_winner 37 = .ok (.iaload, 1) := by decide +kernel
theorem dX9_winner_38 : decode cX9_winner 38 = .ok (.isub, 1) := by decide +kernel
theorem dX9_winner_39 : decode cX9_winner 39 = .ok (.ireturn, 1) := by decide +kernel
set_option maxRecDepth 20000 in
theorem ggX9_does_X9_gain : GoodIn wsX9_does wsX9_gain := goodIn_r _ [6, 7, 8, 9, 5, 10, 1, 29, 30, 31, 32, 33, 34, 35, 36, 37, 38, 39, 40, 41, 42, 43, 44] (by decide +kernel) (by decide +kernel)
set_option maxRecDepth 20000 in
theorem gX9_does_X9_gain : GoodIn wsX9_does (wsV RX9 71 RX9 yX9_gain wsX9_gain) := goodIn_app (goodIn_of _ (by decide +kernel)) ggX9_does_X9_gain
set_option maxRecDepth 20000 in
theorem ggX9_does_X9_code : GoodIn wsX9_does wsX9_code := goodIn_r _ [14, 15, 16, 5, 17, 7, 8, 9, 10, 1, 29, 30, 31, 32, 33, 34, 35, 36, 37, 38, 39, 40, 41, 42, 43, 44] (by decide +kernel) (by decide +kernel)
set_option maxRecDepth 20000 in
theorem gX9_does_X9_code : GoodIn wsX9_does (wsV RX9 102 RX9 yX9_code wsX9_code) := goodIn_app (goodIn_of _ (by decide +kernel)) ggX9_does_X9_code
set_option maxRecDepth 20000 in
theorem ggX9_does_X9_isPoisoned : GoodIn wsX9_does wsX9_isPoisoned := goodIn_r _ [21, 7, 8, 9, 5, 10, 1, 22, 23, 24, 15, 16, 17, 29, 30, 31, 32, 33, 34, 35, 36, 37, 38, 39, 40, 41, 42, 43, 44] (by decide +kernel) (by decide +kernel)
set_option maxRecDepth 20000 in
theorem gX9_does_X9_isPoisoned : GoodIn wsX9_does (wsV RX9 74 RX9 yX9_isPoisoned wsX9_isPoisoned) := goodIn_app (goodIn_of _ (by decide +kernel)) ggX9_does_X9_isPoisoned
set_option maxRecDepth 20000 in
theorem ggX9_does_X9_of : GoodIn wsX9_does wsX9_of := goodIn_r _ [10, 1, 29, 30, 31, 32, 33, 34, 35, 36, 37, 38, 39, 40, 41, 42, 43, 44] (by decide +kernel) (by decide +kernel)
set_option maxRecDepth 20000 in
theorem gX9_does_X9_of : GoodIn wsX9_does (wsV RX9 64 RX9 yX9_of wsX9_of) := goodIn_app (goodIn_of _ (by decide +kernel)) ggX9_does_X9_of
set_option maxRecDepth 20000 in
theorem ggX9_does_X9_lay : GoodIn wsX9_does wsX9_lay := goodIn_r _ [28, 1, 29, 30, 31, 32, 33, 34, 35, 36, 37, 38, 39, 40, 41, 42, 43, 44] (by decide +kernel) (by decide +kernel)
set_option maxRecDepth 20000 in
theorem gX9_does_X9_lay : GoodIn wsX9_does (wsV RX9 116 RX9 yX9_lay wsX9_lay) := goodIn_app (goodIn_of _ (by decide +kernel)) ggX9_does_X9_lay
theorem dX9_does_0 : decode cX9_does 0 = .ok (.aload_n 0, 1) := by decide +kernel
theorem dX9_does_1 : decode cX9_does 1 = .ok (.getfield 7, 3) := by decide +kernel
theorem dX9_does_4 : decode cX9_does 4 = .ok (.bipush 9, 2) := by decide +kernel
theorem dX9_does_6 : decode cX9_does 6 = .ok (.aload_n 0, 1) := by decide +kernel
theorem dX9_does_7 : decode cX9_does 7 = .ok (.getfield 7, 3) := by decide +kernel
theorem dX9_does_10 : decode cX9_does 10 = .ok (.iconst 3, 1) := by decide +kernel
theorem dX9_does_11 : decode cX9_does 11 = .ok (.iaload, 1) := by decide +kernel
theorem dX9_does_12 : decode cX9_does 12 = .ok (.iadd, 1) := by decide +kernel
theorem dX9_does_13 : decode cX9_does 13 = .ok (.dup2, 1) := by decide +kernel
theorem dX9_does_14 : decode cX9_does 14 = .ok (.iaload, 1) := by decide +kernel
theorem dX9_does_15 : decode cX9_does 15 = .ok (.aload_n 0, 1) := by decide +kernel
theorem dX9_does_16 : decode cX9_does 16 = .ok (.iload_n 1, 1) := by decide +kernel
theorem dX9_does_17 : decode cX9_does 17 = .ok (.invokevirtual 71, 3) := by decide +kernel
theorem dX9_does_20 : decode cX9_does 20 = .ok (.iadd, 1) := by decide +kernel
theorem dX9_does_21 : decode cX9_does 21 = .ok (.iastore, 1) := by decide +kernel
theorem dX9_does_22 : decode cX9_does 22 = .ok (.aload_n 0, 1) := by decide +kernel
theorem dX9_does_23 : decode cX9_does 23 = .ok (.getfield 7, 3) := by decide +kernel
theorem dX9_does_26 : decode cX9_does 26 = .ok (.iconst 5, 1) := by decide +kernel
theorem dX9_does_27 : decode cX9_does 27 = .ok (.aload_n 0, 1) := by decide +kernel
theorem dX9_does_28 : decode cX9_does 28 = .ok (.iload_n 1, 1) := by decide +kernel
theorem dX9_does_29 : decode cX9_does 29 = .ok (.aload_n 0, 1) := by decide +kernel
theorem dX9_does_30 : decode cX9_does 30 = .ok (.invokevirtual 102, 3) := by decide +kernel
theorem dX9_does_33 : decode cX9_does 33 = .ok (.invokevirtual 74, 3) := by decide +kernel
theorem dX9_does_36 : decode cX9_does 36 = .ok (.ifCond .eq 7, 3) := by decide +kernel
theorem dX9_does_39 : decode cX9_does 39 = .ok (.iconst 1, 1) := by decide +kernel
theorem dX9_does_40 : decode cX9_does 40 = .ok (.goto 4, 3) := by decide +kernel
theorem dX9_does_43 : decode cX9_does 43 = .ok (.iconst 0, 1) := by decide +kernel
theorem dX9_does_44 : decode cX9_does 44 = .ok (.iastore, 1) := by decide +kernel
theorem dX9_does_45 : decode cX9_does 45 = .ok (.aload_n 0, 1) := by decide +kernel
theorem dX9_does_46 : decode cX9_does 46 = .ok (.getfield 7, 3) := by decide +kernel
theorem dX9_does_49 : decode cX9_does 49 = .ok (.iconst 4, 1) := by decide +kernel
theorem dX9_does_50 : decode cX9_does 50 = .ok (.iload_n 1, 1) := by decide +kernel
theorem dX9_does_51 : decode cX9_does 51 = .ok (.bipush 20, 2) := by decide +kernel
theorem dX9_does_53 : decode cX9_does 53 = .ok (.if_icmp .ne 7, 3) := by decide +kernel
theorem dX9_does_56 : decode cX9_does 56 = .ok (.iconst 1, 1) := by decide +kernel
theorem dX9_does_57 : decode cX9_does 57 = .ok (.goto 4, 3) := by decide +kernel
theorem dX9_does_60 : decode cX9_does 60 = .ok (.iconst 0, 1) := by decide +kernel
theorem dX9_does_61 : decode cX9_does 61 = .ok (.iastore, 1) := by decide +kernel
theorem dX9_does_62 : decode cX9_does 62 = .ok (.iload_n 1, 1) := by decide +kernel
theorem dX9_does_63 : decode cX9_does 63 = .ok (.bipush 20, 2) := by decide +kernel
theorem dX9_does_65 : decode cX9_does 65 = .ok (.if_icmp .ne 24, 3) := by decide +kernel
theorem dX9_does_68 : decode cX9_does 68 = .ok (.aload_n 0, 1) := by decide +kernel
theorem dX9_does_69 : decode cX9_does 69 = .ok (.getfield 7, 3) := by decide +kernel
theorem dX9_does_72 : decode cX9_does 72 = .ok (.bipush 7, 2) := by decide +kernel
theorem dX9_does_74 : decode cX9_does 74 = .ok (.aload_n 0, 1) := by decide +kernel
theorem dX9_does_75 : decode cX9_does 75 = .ok (.getfield 7, 3) := by decide +kernel
theorem dX9_does_78 : decode cX9_does 78 = .ok (.iconst 3, 1) := by decide +kernel
theorem dX9_does_79 : decode cX9_does 79 = .ok (.iaload, 1) := by decide +kernel
theorem dX9_does_80 : decode cX9_does 80 = .ok (.iadd, 1) := by decide +kernel
theorem dX9_does_81 : decode cX9_does 81 = .ok (.dup2, 1) := by decide +kernel
theorem dX9_does_82 : decode cX9_does 82 = .ok (.iaload, 1) := by decide +kernel
theorem dX9_does_83 : decode cX9_does 83 = .ok (.iconst 1, 1) := by decide +kernel
theorem dX9_does_84 : decode cX9_does 84 = .ok (.isub, 1) := by decide +kernel
theorem dX9_does_85 : decode cX9_does 85 = .ok (.iastore, 1) := by decide +kernel
theorem dX9_does_86 : decode cX9_does 86 = .ok (.goto 25, 3) := by decide +kernel
theorem dX9_does_89 : decode cX9_does 89 = .ok (.aload_n 0, 1) := by decide +kernel
theorem dX9_does_90 : decode cX9_does 90 = .ok (.iload_n 1, 1) := by decide +kernel
theorem dX9_does_91 : decode cX9_does 91 = .ok (.iconst 5, 1) := by decide +kernel
theorem dX9_does_92 : decode cX9_does 92 = .ok (.idiv, 1) := by decide +kernel
theorem dX9_does_93 : decode cX9_does 93 = .ok (.iconst 0, 1) := by decide +kernel
theorem dX9_does_94 : decode cX9_does 94 = .ok (.aload_n 0, 1) := by decide +kernel
theorem dX9_does_95 : decode cX9_does 95 = .ok (.iload_n 1, 1) := by decide +kernel
theorem dX9_does_96 : decode cX9_does 96 = .ok (.iconst 5, 1) := by decide +kernel
theorem dX9_does_97 : decode cX9_does 97 = .ok (.idiv, 1) := by decide +kernel
theorem dX9_does_98 : decode cX9_does 98 = .ok (.iconst 0, 1) := by decide +kernel
theorem dX9_does_99 : decode cX9_does 99 = .ok (.invokevirtual 64, 3) := by decide +kernel
theorem dX9_does_102 : decode cX9_does 102 = .ok (.iload_n 1, 1) := by decide +kernel
theorem dX9_does_103 : decode cX9_does 103 = .ok (.iconst 5, 1) := by decide +kernel
theorem dX9_does_104 : decode cX9_does 104 = .ok (.irem, 1) := by decide +kernel
theorem dX9_does_105 : decode cX9_does 105 = .ok (.iconst 1, 1) := by decide +kernel
theorem dX9_does_106 : decode cX9_does 106 = .ok (.iadd, 1) := by decide +kernel
theorem dX9_does_107 : decode cX9_does 107 = .ok (.isub, 1) := by decide +kernel
theorem dX9_does_108 : decode cX9_does 108 = .ok (.invokevirtual 116, 3) := by decide +kernel
theorem dX9_does_111 : decode cX9_does 111 = .ok (.aload_n 0, 1) := by decide +kernel
theorem dX9_does_112 : decode cX9_does 112 = .ok (.getfield 7, 3) := by decide +kernel
theorem dX9_does_115 : decode cX9_does 115 = .ok (.iconst 3, 1) := by decide +kernel
theorem dX9_does_116 : decode cX9_does 116 = .ok (.iconst 1, 1) := by decide +kernel
theorem dX9_does_117 : decode cX9_does 117 = .ok (.aload_n 0, 1) := by decide +kernel
theorem dX9_does_118 : decode cX9_does 118 = .ok (.getfield 7, 3) := by decide +kernel
theorem dX9_does_121 : decode cX9_does 121 = .ok (.iconst 3, 1) := by decide +kernel
theorem dX9_does_122 : decode cX9_does 122 = .ok (.iaload, 1) := by decide +kernel
theorem dX9_does_123 : decode cX9_does 123 = .ok (.isub, 1) := by decide +kernel
theorem dX9_does_124 : decode cX9_does 124 = .ok (.iastore, 1) := by decide +kernel
theorem dX9_does_125 : decode cX9_does 125 = .ok (.aload_n 0, 1) := by decide +kernel
theorem dX9_does_126 : decode cX9_does 126 = .ok (.getfield 7, 3) := by decide +kernel
theorem dX9_does_129 : decode cX9_does 129 = .ok (.bipush 6, 2) := by decide +kernel
theorem dX9_does_131 : decode cX9_does 131 = .ok (.dup2, 1) := by decide +kernel
theorem dX9_does_132 : decode cX9_does 132 = .ok (.iaload, 1) := by decide +kernel
theorem dX9_does_133 : decode cX9_does 133 = .ok (.iconst 1, 1) := by decide +kernel
theorem dX9_does_134 : decode cX9_does 134 = .ok (.iadd, 1) := by decide +kernel
theorem dX9_does_135 : decode cX9_does 135 = .ok (.iastore, 1) := by decide +kernel
theorem dX9_does_136 : decode cX9_does 136 = .ok (.return_, 1) := by decide +kernel
set_option maxRecDepth 20000 in
theorem ggX9_bestMove_X9_movesNow : GoodIn wsX9_bestMove wsX9_movesNow := goodIn_r _ [5, 6, 7, 8, 9, 4, 10, 11, 12, 13, 14, 15, 16, 17, 18, 19, 20, 21, 22, 23, 24, 25, 26, 27, 28, 29, 30, 31, 32, 33, 34, 35, 59, 60, 61, 62, 63, 64, 65, 66, 67, 68, 69, 70, 71, 72, 73, 74] (by decide +kernel) (by decide +kernel)
set_option maxRecDepth 20000 in
theorem gX9_bestMove_X9_movesNow : GoodIn wsX9_bestMove (wsV RX9 109 RX9 yX9_movesNow wsX9_movesNow) := goodIn_app (goodIn_of _ (by decide +kernel)) ggX9_bestMove_X9_movesNow
set_option maxRecDepth 20000 in
theorem ggX9_bestMove_X9_code : GoodIn wsX9_bestMove wsX9_code := goodIn_r _ [10, 11, 12, 4, 13, 14, 15, 16, 17, 6, 59, 60, 61, 62, 63, 64, 65, 66, 67, 68, 69, 70, 71, 72, 73, 74] (by decide +kernel) (by decide +kernel)
set_option maxRecDepth 20000 in
theorem gX9_bestMove_X9_code : GoodIn wsX9_bestMove (wsV RX9 102 RX9 yX9_code wsX9_code) := goodIn_app (goodIn_of _ (by decide +kernel)) ggX9_bestMove_X9_code
set_option maxRecDepth 20000 in
theorem ggX9_bestMove_X9_own : GoodIn wsX9_bestMove wsX9_own := goodIn_r _ [21, 6, 59, 60, 61, 62, 63, 64, 65, 66, 67, 68, 69, 70, 71, 72, 73, 74] (by decide +kernel) (by decide +kernel)
set_option maxRecDepth 20000 in
theorem gX9_bestMove_X9_own : GoodIn wsX9_bestMove (wsV RX9 106 RX9 yX9_own wsX9_own) := goodIn_app (goodIn_of _ (by decide +kernel)) ggX9_bestMove_X9_own
set_option maxRecDepth 20000 in
theorem ggX9_bestMove_X9_others : GoodIn wsX9_bestMove wsX9_others := goodIn_r _ [39, 6, 59, 60, 61, 62, 63, 64, 65, 66, 67, 68, 69, 70, 71, 72, 73, 74] (by decide +kernel) (by decide +kernel)
set_option maxRecDepth 20000 in
theorem gX9_bestMove_X9_others : GoodIn wsX9_bestMove (wsV RX9 120 RX9 yX9_others wsX9_others) := goodIn_app (goodIn_of _ (by decide +kernel)) ggX9_bestMove_X9_others
set_option maxRecDepth 20000 in
theorem ggX9_bestMove_X9_worth : GoodIn wsX9_bestMove wsX9_worth := goodIn_r _ [43, 6, 44, 45, 46, 47, 4, 48, 14, 15, 16, 17, 49, 50, 51, 52, 33, 34, 35, 11, 12, 13, 53, 54, 55, 56, 57, 58, 59, 60, 61, 62, 63, 64, 65, 66, 67, 68, 69, 70, 71, 72, 73, 74] (by decide +kernel) (by decide +kernel)
set_option maxRecDepth 20000 in
theorem gX9_bestMove_X9_worth : GoodIn wsX9_bestMove (wsV RX9 85 RX9 yX9_worth wsX9_worth) := goodIn_app (goodIn_of _ (by decide +kernel)) ggX9_bestMove_X9_worth
theorem dX9_bestMove_0 : decode cX9_bestMove 0 = .ok (.aload_n 0, 1) := by decide +kernel
theorem dX9_bestMove_1 : decode cX9_bestMove 1 = .ok (.invokevirtual 109, 3) := by decide +kernel
theorem dX9_bestMove_4 : decode cX9_bestMove 4 = .ok (.istore_n 1, 1) := by decide +kernel
theorem dX9_bestMove_5 : decode cX9_bestMove 5 = .ok (.aload_n 0, 1) := by decide +kernel
theorem dX9_bestMove_6 : decode cX9_bestMove 6 = .ok (.invokevirtual 102, 3) := by decide +kernel
theorem dX9_bestMove_9 : decode cX9_bestMove 9 = .ok (.istore_n 2, 1) := by decide +kernel
theorem dX9_bestMove_10 : decode cX9_bestMove 10 = .ok (.bipush (-6), 2) := by decide +kernel
theorem dX9_bestMove_12 : decode cX9_bestMove 12 = .ok (.istore_n 3, 1) := by decide +kernel
theorem dX9_bestMove_13 : decode cX9_bestMove 13 = .ok (.iconst 0, 1) := by decide +kernel
theorem dX9_bestMove_14 : decode cX9_bestMove 14 = .ok (.istore 4, 2) := by decide +kernel
theorem dX9_bestMove_16 : decode cX9_bestMove 16 = .ok (.iconst 0, 1) := by decide +kernel
theorem dX9_bestMove_17 : decode cX9_bestMove 17 = .ok (.istore 5, 2) := by decide +kernel
theorem dX9_bestMove_19 : decode cX9_bestMove 19 = .ok (.iload 5, 2) := by decide +kernel
theorem dX9_bestMove_21 : decode cX9_bestMove 21 = .ok (.bipush 21, 2) := by decide +kernel
theorem dX9_bestMove_23 : decode cX9_bestMove 23 = .ok (.if_icmp .ge 82, 3) := by decide +kernel
theorem dX9_bestMove_26 : decode cX9_bestMove 26 = .ok (.iload_n 1, 1) := by decide +kernel
theorem dX9_bestMove_27 : decode cX9_bestMove 27 = .ok (.iload 5, 2) := by decide +kernel
theorem dX9_bestMove_29 : decode cX9_bestMove 29 = .ok (.ishr, 1) := by decide +kernel
theorem dX9_bestMove_30 : decode cX9_bestMove 30 = .ok (.iconst 1, 1) := by decide +kernel
theorem dX9_bestMove_31 : decode cX9_bestMove 31 = .ok (.iand, 1) := by decide +kernel
theorem dX9_bestMove_32 : decode cX9_bestMove 32 = .ok (.iconst 1, 1) := by decide +kernel
theorem dX9_bestMove_33 : decode cX9_bestMove 33 = .ok (.if_icmp .ne 66, 3) := by decide +kernel
theorem dX9_bestMove_36 : decode cX9_bestMove 36 = .ok (.aload_n 0, 1) := by decide +kernel
theorem dX9_bestMove_37 : decode cX9_bestMove 37 = .ok (.iload 5, 2) := by decide +kernel
theorem dX9_bestMove_39 : decode cX9_bestMove 39 = .ok (.iload_n 2, 1) := by decide +kernel
theorem dX9_bestMove_40 : decode cX9_bestMove 40 = .ok (.aload_n 0, 1) := by decide +kernel
theorem dX9_bestMove_41 : decode cX9_bestMove 41 = .ok (.invokevirtual 106, 3) := by decide +kernel
theorem dX9_bestMove_44 : decode cX9_bestMove 44 = .ok (.aload_n 0, 1) := by decide +kernel
theorem dX9_bestMove_45 : decode cX9_bestMove 45 = .ok (.invokevirtual 120, 3) := by decide +kernel
theorem dX9_bestMove_48 : decode cX9_bestMove 48 = .ok (.invokevirtual 85, 3) := by decide +kernel
theorem dX9_bestMove_51 : decode cX9_bestMove 51 = .ok (.istore 6, 2) := by decide +kernel
theorem dX9_bestMove_53 : decode cX9_bestMove 53 = .ok (.iload_n 3, 1) := by decide +kernel
theorem dX9_bestMove_54 : decode cX9_bestMove 54 = .ok (.bipush (-6), 2) := by decide +kernel
theorem dX9_bestMove_56 : decode cX9_bestMove 56 = .ok (.if_icmp .eq 10, 3) := by decide +kernel
theorem dX9_bestMove_59 : decode cX9_bestMove 59 = .ok (.iload 6, 2) := by decide +kernel
theorem dX9_bestMove_61 : decode cX9_bestMove 61 = .ok (.iload 4, 2) := by decide +kernel
theorem dX9_bestMove_63 : decode cX9_bestMove 63 = .ok (.if_icmp .le 7, 3) := by decide +kernel
theorem dX9_bestMove_66 : decode cX9_bestMove 66 = .ok (.iconst 1, 1) := by decide +kernel
theorem dX9_bestMove_67 : decode cX9_bestMove 67 = .ok (.goto 4, 3) := by decide +kernel
theorem dX9_bestMove_70 : decode cX9_bestMove 70 = .ok (.iconst 0, 1) := by decide +kernel
theorem dX9_bestMove_71 : decode cX9_bestMove 71 = .ok (.istore 7, 2) := by decide +kernel
theorem dX9_bestMove_73 : decode cX9_bestMove 73 = .ok (.iload 7, 2) := by decide +kernel
theorem dX9_bestMove_75 : decode cX9_bestMove 75 = .ok (.ifCond .eq 8, 3) := by decide +kernel
theorem dX9_bestMove_78 : decode cX9_bestMove 78 = .ok (.iload 5, 2) := by decide +kernel
theorem dX9_bestMove_80 : decode cX9_bestMove 80 = .ok (.goto 4, 3) := by decide +kernel
theorem dX9_bestMove_83 : decode cX9_bestMove 83 = .ok (.iload_n 3, 1) := by decide +kernel
theorem dX9_bestMove_84 : decode cX9_bestMove 84 = .ok (.istore_n 3, 1) := by decide +kernel
theorem dX9_bestMove_85 : decode cX9_bestMove 85 = .ok (.iload 7, 2) := by decide +kernel
theorem dX9_bestMove_87 : decode cX9_bestMove 87 = .ok (.ifCond .eq 8, 3) := by decide +kernel
theorem dX9_bestMove_90 : decode cX9_bestMove 90 = .ok (.iload 6, 2) := by decide +kernel
theorem dX9_bestMove_92 : decode cX9_bestMove 92 = .ok (.goto 5, 3) := by decide +kernel
theorem dX9_bestMove_95 : decode cX9_bestMove 95 = .ok (.iload 4, 2) := by decide +kernel
theorem dX9_bestMove_97 : decode cX9_bestMove 97 = .ok (.istore 4, 2) := by decide +kernel
theorem dX9_bestMove_99 : decode cX9_bestMove 99 = .ok (.iinc 5 1, 3) := by decide +kernel
theorem dX9_bestMove_102 : decode cX9_bestMove 102 = .ok (.goto (-83), 3) := by decide +kernel
theorem dX9_bestMove_105 : decode cX9_bestMove 105 = .ok (.iload_n 3, 1) := by decide +kernel
theorem dX9_bestMove_106 : decode cX9_bestMove 106 = .ok (.ireturn, 1) := by decide +kernel
set_option maxRecDepth 20000 in
theorem ggX9_tokens_X9_of : GoodIn wsX9_tokens wsX9_of := goodIn_r _ [6, 1, 7, 8, 9, 10, 11, 12, 13, 14, 15, 16, 17, 18, 19, 20, 21, 22] (by decide +kernel) (by decide +kernel)
set_option maxRecDepth 20000 in
theorem gX9_tokens_X9_of : GoodIn wsX9_tokens (wsV RX9 64 RX9 yX9_of wsX9_of) := goodIn_app (goodIn_of _ (by decide +kernel)) ggX9_tokens_X9_of
theorem dX9_tokens_0 : decode cX9_tokens 0 = .ok (.iconst 0, 1) := by decide +kernel
theorem dX9_tokens_1 : decode cX9_tokens 1 = .ok (.istore_n 1, 1) := by decide +kernel
theorem dX9_tokens_2 : decode cX9_tokens 2 = .ok (.iconst 0, 1) := by decide +kernel
theorem dX9_tokens_3 : decode cX9_tokens 3 = .ok (.istore_n 2, 1) := by decide +kernel
theorem dX9_tokens_4 : decode cX9_tokens 4 = .ok (.iload_n 2, 1) := by decide +kernel
theorem dX9_tokens_5 : decode cX9_tokens 5 = .ok (.aload_n 0, 1) := by decide +kernel
theorem dX9_tokens_6 : decode cX9_tokens 6 = .ok (.getfield 7, 3) := by decide +kernel
theorem dX9_tokens_9 : decode cX9_tokens 9 = .ok (.iconst 2, 1) := by decide +kernel
theorem dX9_tokens_10 : decode cX9_tokens 10 = .ok (.iaload, 1) := by decide +kernel
theorem dX9_tokens_11 : decode cX9_tokens 11 = .ok (.if_icmp .ge 18, 3) := by decide +kernel
theorem dX9_tokens_14 : decode cX9_tokens 14 = .ok (.iload_n 1, 1) := by decide +kernel
theorem dX9_tokens_15 : decode cX9_tokens 15 = .ok (.aload_n 0, 1) := by decide +kernel
theorem dX9_tokens_16 : decode cX9_tokens 16 = .ok (.iload_n 2, 1) := by decide +kernel
theorem dX9_tokens_17 : decode cX9_tokens 17 = .ok (.iconst 0, 1) := by decide +kernel
theorem dX9_tokens_18 : decode cX9_tokens 18 = .ok (.invokevirtual 64, 3) := by decide +kernel
theorem dX9_tokens_21 : decode cX9_tokens 21 = .ok (.iadd, 1) := by decide +kernel
theorem dX9_tokens_22 : decode cX9_tokens 22 = .ok (.istore_n 1, 1) := by decide +kernel
theorem dX9_tokens_23 : decode cX9_tokens 23 = .ok (.iinc 2 1, 3) := by decide +kernel
theorem dX9_tokens_26 : decode cX9_tokens 26 = .ok (.goto (-22), 3) := by decide +kernel
theorem dX9_tokens_29 : decode cX9_tokens 29 = .ok (.iload_n 1, 1) := by decide +kernel
theorem dX9_tokens_30 : decode cX9_tokens 30 = .ok (.ireturn, 1) := by decide +kernel
set_option maxRecDepth 20000 in
theorem ggX9_set_X9_in : GoodIn wsX9_set wsX9_in := goodIn_r _ [6] (by decide +kernel) (by decide +kernel)
set_option maxRecDepth 20000 in
theorem gX9_set_X9_in : GoodIn wsX9_set (va_wsS RX9 45 yX9_in wsX9_in) := goodIn_app (goodIn_of _ (by decide +kernel)) ggX9_set_X9_in
set_option maxRecDepth 20000 in
theorem ggX9_set_X9_records : GoodIn wsX9_set wsX9_records := goodIn_r _ [10, 11, 12, 2, 13, 14, 15, 16, 17, 18, 19, 20, 21, 22, 23, 24, 25, 26, 27, 28] (by decide +kernel) (by decide +kernel)
set_option maxRecDepth 20000 in
theorem gX9_set_X9_records : GoodIn wsX9_set (wsV RX9 123 RX9 yX9_records wsX9_records) := goodIn_app (goodIn_of _ (by decide +kernel)) ggX9_set_X9_records
theorem dX9_set_0 : decode cX9_set 0 = .ok (.aload_n 0, 1) := by decide +kernel
theorem dX9_set_1 : decode cX9_set 1 = .ok (.iconst 0, 1) := by decide +kernel
theorem dX9_set_2 : decode cX9_set 2 = .ok (.putfield 41, 3) := by decide +kernel
theorem dX9_set_5 : decode cX9_set 5 = .ok (.iload_n 1, 1) := by decide +kernel
theorem dX9_set_6 : decode cX9_set 6 = .ok (.ifCond .ne 13, 3) := by decide +kernel
theorem dX9_set_9 : decode cX9_set 9 = .ok (.iload_n 2, 1) := by decide +kernel
theorem dX9_set_10 : decode cX9_set 10 = .ok (.iconst 1, 1) := by decide +kernel
theorem dX9_set_11 : decode cX9_set 11 = .ok (.bipush 31, 2) := by decide +kernel
theorem dX9_set_13 : decode cX9_set 13 = .ok (.invokestatic 45, 3) := by decide +kernel
theorem dX9_set_16 : decode cX9_set 16 = .ok (.goto 23, 3) := by decide +kernel
theorem dX9_set_19 : decode cX9_set 19 = .ok (.iload_n 1, 1) := by decide +kernel
theorem dX9_set_20 : decode cX9_set 20 = .ok (.iconst 1, 1) := by decide +kernel
theorem dX9_set_21 : decode cX9_set 21 = .ok (.if_icmp .ne 17, 3) := by decide +kernel
theorem dX9_set_24 : decode cX9_set 24 = .ok (.iload_n 2, 1) := by decide +kernel
theorem dX9_set_25 : decode cX9_set 25 = .ok (.iconst 0, 1) := by decide +kernel
theorem dX9_set_26 : decode cX9_set 26 = .ok (.bipush 99, 2) := by decide +kernel
theorem dX9_set_28 : decode cX9_set 28 = .ok (.invokestatic 45, 3) := by decide +kernel
theorem dX9_set_31 : decode cX9_set 31 = .ok (.ifCond .eq 7, 3) := by decide +kernel
theorem dX9_set_34 : decode cX9_set 34 = .ok (.iconst 1, 1) := by decide +kernel
theorem dX9_set_35 : decode cX9_set 35 = .ok (.goto 4, 3) := by decide +kernel
theorem dX9_set_38 : decode cX9_set 38 = .ok (.iconst 0, 1) := by decide +kernel
theorem dX9_set_39 : decode cX9_set 39 = .ok (.istore_n 3, 1) := by decide +kernel
theorem dX9_set_40 : decode cX9_set 40 = .ok (.iload_n 3, 1) := by decide +kernel
theorem dX9_set_41 : decode cX9_set 41 = .ok (.ifCond .ne 6, 3) := by decide +kernel
theorem dX9_set_44 : decode cX9_set 44 = .ok (.bipush (-2), 2) := by decide +kernel
theorem dX9_set_46 : decode cX9_set 46 = .ok (.ireturn, 1) := by decide +kernel
theorem dX9_set_47 : decode cX9_set 47 = .ok (.aload_n 0, 1) := by decide +kernel
theorem dX9_set_48 : decode cX9_set 48 = .ok (.invokevirtual 123, 3) := by decide +kernel
theorem dX9_set_51 : decode cX9_set 51 = .ok (.aload_n 0, 1) := by decide +kernel
theorem dX9_set_52 : decode cX9_set 52 = .ok (.getfield 7, 3) := by decide +kernel
theorem dX9_set_55 : decode cX9_set 55 = .ok (.iload_n 1, 1) := by decide +kernel
theorem dX9_set_56 : decode cX9_set 56 = .ok (.iaload, 1) := by decide +kernel
theorem dX9_set_57 : decode cX9_set 57 = .ok (.istore 4, 2) := by decide +kernel
theorem dX9_set_59 : decode cX9_set 59 = .ok (.aload_n 0, 1) := by decide +kernel
theorem dX9_set_60 : decode cX9_set 60 = .ok (.getfield 7, 3) := by decide +kernel
theorem dX9_set_63 : decode cX9_set 63 = .ok (.iload_n 1, 1) := by decide +kernel
theorem dX9_set_64 : decode cX9_set 64 = .ok (.iload_n 2, 1) := by decide +kernel
theorem dX9_set_65 : decode cX9_set 65 = .ok (.iastore, 1) := by decide +kernel
theorem dX9_set_66 : decode cX9_set 66 = .ok (.iload 4, 2) := by decide +kernel
theorem dX9_set_68 : decode cX9_set 68 = .ok (.ireturn, 1) := by decide +kernel
set_option maxRecDepth 20000 in
theorem ggX9_refusesPile_X9_in : GoodIn wsX9_refusesPile wsX9_in := goodIn_r _ [5] (by decide +kernel) (by decide +kernel)
set_option maxRecDepth 20000 in
theorem gX9_refusesPile_X9_in : GoodIn wsX9_refusesPile (va_wsS RX9 45 yX9_in wsX9_in) := goodIn_app (goodIn_of _ (by decide +kernel)) ggX9_refusesPile_X9_in
theorem dX9_refusesPile_0 : decode cX9_refusesPile 0 = .ok (.iload_n 1, 1) := by decide +kernel
theorem dX9_refusesPile_1 : decode cX9_refusesPile 1 = .ok (.iconst 0, 1) := by decide +kernel
theorem dX9_refusesPile_2 : decode cX9_refusesPile 2 = .ok (.iconst 5, 1) := by decide +kernel
theorem dX9_refusesPile_3 : decode cX9_refusesPile 3 = .ok (.invokestatic 45, 3) := by decide +kernel
theorem dX9_refusesPile_6 : decode cX9_refusesPile 6 = .ok (.ifCond .eq 26, 3) := by decide +kernel
theorem dX9_refusesPile_9 : decode cX9_refusesPile 9 = .ok (.iload_n 2, 1) := by decide +kernel
theorem dX9_refusesPile_10 : decode cX9_refusesPile 10 = .ok (.iconst 0, 1) := by decide +kernel
theorem dX9_refusesPile_11 : decode cX9_refusesPile 11 = .ok (.bipush 9, 2) := by decide +kernel
theorem dX9_refusesPile_13 : decode cX9_refusesPile 13 = .ok (.invokestatic 45, 3) := by decide +kernel
theorem dX9_refusesPile_16 : decode cX9_refusesPile 16 = .ok (.ifCond .eq 16, 3) := by decide +kernel
theorem dX9_refusesPile_19 : decode cX9_refusesPile 19 = .ok (.iload_n 3, 1) := by decide +kernel
theorem dX9_refusesPile_20 : decode cX9_refusesPile 20 = .ok (.iconst 0, 1) := by decide +kernel
theorem dX9_refusesPile_21 : decode cX9_refusesPile 21 = .ok (.iconst 1, 1) := by decide +kernel
theorem dX9_refusesPile_22 : decode cX9_refusesPile 22 = .ok (.invokestatic 45, 3) := by decide +kernel
theorem dX9_refusesPile_25 : decode cX9_refusesPile 25 = .ok (.ifCond .eq 7, 3) := by decide +kernel
theorem dX9_refusesPile_28 : decode cX9_refusesPile 28 = .ok (.iconst 1, 1) := by decide +kernel
theorem dX9_refusesPile_29 : decode cX9_refusesPile 29 = .ok (.goto 4, 3) := by decide +kernel
theorem dX9_refusesPile_32 : decode cX9_refusesPile 32 = .ok (.iconst 0, 1) := by decide +kernel
theorem dX9_refusesPile_33 : decode cX9_refusesPile 33 = .ok (.istore 4, 2) := by decide +kernel
theorem dX9_refusesPile_35 : decode cX9_refusesPile 35 = .ok (.iload 4, 2) := by decide +kernel
theorem dX9_refusesPile_37 : decode cX9_refusesPile 37 = .ok (.ifCond .ne 8, 3) := by decide +kernel
