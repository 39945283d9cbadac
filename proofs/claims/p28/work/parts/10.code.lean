set_option maxRecDepth 20000 in
theorem ggX0_init_X4_init : GoodIn wsX0_init wsX4_init := goodIn_r _ [16, 17, 2, 3] (by decide +kernel) (by decide +kernel)
set_option maxRecDepth 20000 in
theorem gX0_init_X4_init_n26 : GoodIn wsX0_init (wsX4_init) := ggX0_init_X4_init
set_option maxRecDepth 20000 in
theorem ggX0_init_X3_init : GoodIn wsX0_init wsX3_init := goodIn_r _ [19, 20, 2, 3] (by decide +kernel) (by decide +kernel)
set_option maxRecDepth 20000 in
theorem gX0_init_X3_init_n34 : GoodIn wsX0_init (wsX3_init) := ggX0_init_X3_init
theorem dX0_init_0 : decode cX0_init 0 = .ok (.aload_n 0, 1) := by decide +kernel
theorem dX0_init_1 : decode cX0_init 1 = .ok (.invokespecial 3, 3) := by decide +kernel
theorem dX0_init_4 : decode cX0_init 4 = .ok (.aload_n 0, 1) := by decide +kernel
theorem dX0_init_5 : decode cX0_init 5 = .ok (.bipush 7, 2) := by decide +kernel
theorem dX0_init_7 : decode cX0_init 7 = .ok (.putfield 9, 3) := by decide +kernel
theorem dX0_init_10 : decode cX0_init 10 = .ok (.aload_n 0, 1) := by decide +kernel
theorem dX0_init_11 : decode cX0_init 11 = .ok (.bipush 10, 2) := by decide +kernel
theorem dX0_init_13 : decode cX0_init 13 = .ok (.putfield 15, 3) := by decide +kernel
theorem dX0_init_16 : decode cX0_init 16 = .ok (.aload_n 0, 1) := by decide +kernel
theorem dX0_init_17 : decode cX0_init 17 = .ok (.iconst 4, 1) := by decide +kernel
theorem dX0_init_18 : decode cX0_init 18 = .ok (.anewarray 18, 3) := by decide +kernel
theorem dX0_init_21 : decode cX0_init 21 = .ok (.putfield 20, 3) := by decide +kernel
theorem dX0_init_24 : decode cX0_init 24 = .ok (.aload_n 0, 1) := by decide +kernel
theorem dX0_init_25 : decode cX0_init 25 = .ok (.new 24, 3) := by decide +kernel
theorem dX0_init_28 : decode cX0_init 28 = .ok (.dup, 1) := by decide +kernel
theorem dX0_init_29 : decode cX0_init 29 = .ok (.invokespecial 26, 3) := by decide +kernel
theorem dX0_init_32 : decode cX0_init 32 = .ok (.putfield 27, 3) := by decide +kernel
theorem dX0_init_35 : decode cX0_init 35 = .ok (.aload_n 0, 1) := by decide +kernel
theorem dX0_init_36 : decode cX0_init 36 = .ok (.new 24, 3) := by decide +kernel
theorem dX0_init_39 : decode cX0_init 39 = .ok (.dup, 1) := by decide +kernel
theorem dX0_init_40 : decode cX0_init 40 = .ok (.invokespecial 26, 3) := by decide +kernel
theorem dX0_init_43 : decode cX0_init 43 = .ok (.putfield 31, 3) := by decide +kernel
theorem dX0_init_46 : decode cX0_init 46 = .ok (.iconst 0, 1) := by decide +kernel
theorem dX0_init_47 : decode cX0_init 47 = .ok (.istore_n 1, 1) := by decide +kernel
theorem dX0_init_48 : decode cX0_init 48 = .ok (.iload_n 1, 1) := by decide +kernel
theorem dX0_init_49 : decode cX0_init 49 = .ok (.aload_n 0, 1) := by decide +kernel
theorem dX0_init_50 : decode cX0_init 50 = .ok (.getfield 20, 3) := by decide +kernel
theorem dX0_init_53 : decode cX0_init 53 = .ok (.arraylength, 1) := by decide +kernel
theorem dX0_init_54 : decode cX0_init 54 = .ok (.if_icmp .ge 22, 3) := by decide +kernel
theorem dX0_init_57 : decode cX0_init 57 = .ok (.aload_n 0, 1) := by decide +kernel
theorem dX0_init_58 : decode cX0_init 58 = .ok (.getfield 20, 3) := by decide +kernel
theorem dX0_init_61 : decode cX0_init 61 = .ok (.iload_n 1, 1) := by decide +kernel
theorem dX0_init_62 : decode cX0_init 62 = .ok (.new 18, 3) := by decide +kernel
theorem dX0_init_65 : decode cX0_init 65 = .ok (.dup, 1) := by decide +kernel
theorem dX0_init_66 : decode cX0_init 66 = .ok (.invokespecial 34, 3) := by decide +kernel
theorem dX0_init_69 : decode cX0_init 69 = .ok (.aastore, 1) := by decide +kernel
theorem dX0_init_70 : decode cX0_init 70 = .ok (.iinc 1 1, 3) := by decide +kernel
theorem dX0_init_73 : decode cX0_init 73 = .ok (.goto (-25), 3) := by decide +kernel
theorem dX0_init_76 : decode cX0_init 76 = .ok (.return_, 1) := by decide +kernel
set_option maxRecDepth 20000 in
theorem ggX0_copyFrom_X3_copyFrom : GoodIn wsX0_copyFrom wsX3_copyFrom := goodIn_r _ [14, 15, 16, 17, 18, 35, 36, 37, 38] (by decide +kernel) (by decide +kernel)
set_option maxRecDepth 20000 in
theorem gX0_copyFrom_X3_copyFrom_n35 : GoodIn wsX0_copyFrom (wsX3_copyFrom) := ggX0_copyFrom_X3_copyFrom
set_option maxRecDepth 20000 in
theorem ggX0_copyFrom_X4_copyFrom : GoodIn wsX0_copyFrom wsX4_copyFrom := goodIn_r _ [22, 23, 24, 39, 40] (by decide +kernel) (by decide +kernel)
set_option maxRecDepth 20000 in
theorem gX0_copyFrom_X4_copyFrom_n42 : GoodIn wsX0_copyFrom (wsX4_copyFrom) := ggX0_copyFrom_X4_copyFrom
theorem dX0_copyFrom_0 : decode cX0_copyFrom 0 = .ok (.aload_n 0, 1) := by decide +kernel
theorem dX0_copyFrom_1 : decode cX0_copyFrom 1 = .ok (.aload_n 1, 1) := by decide +kernel
theorem dX0_copyFrom_2 : decode cX0_copyFrom 2 = .ok (.getfield 9, 3) := by decide +kernel
theorem dX0_copyFrom_5 : decode cX0_copyFrom 5 = .ok (.putfield 9, 3) := by decide +kernel
theorem dX0_copyFrom_8 : decode cX0_copyFrom 8 = .ok (.aload_n 0, 1) := by decide +kernel
theorem dX0_copyFrom_9 : decode cX0_copyFrom 9 = .ok (.aload_n 1, 1) := by decide +kernel
theorem dX0_copyFrom_10 : decode cX0_copyFrom 10 = .ok (.getfield 15, 3) := by decide +kernel
theorem dX0_copyFrom_13 : decode cX0_copyFrom 13 = .ok (.putfield 15, 3) := by decide +kernel
theorem dX0_copyFrom_16 : decode cX0_copyFrom 16 = .ok (.iconst 0, 1) := by decide +kernel
theorem dX0_copyFrom_17 : decode cX0_copyFrom 17 = .ok (.istore_n 2, 1) := by decide +kernel
theorem dX0_copyFrom_18 : decode cX0_copyFrom 18 = .ok (.iload_n 2, 1) := by decide +kernel
theorem dX0_copyFrom_19 : decode cX0_copyFrom 19 = .ok (.aload_n 0, 1) := by decide +kernel
theorem dX0_copyFrom_20 : decode cX0_copyFrom 20 = .ok (.getfield 20, 3) := by decide +kernel
theorem dX0_copyFrom_23 : decode cX0_copyFrom 23 = .ok (.arraylength, 1) := by decide +kernel
theorem dX0_copyFrom_24 : decode cX0_copyFrom 24 = .ok (.if_icmp .ge 33, 3) := by decide +kernel
theorem dX0_copyFrom_27 : decode cX0_copyFrom 27 = .ok (.iload_n 2, 1) := by decide +kernel
theorem dX0_copyFrom_28 : decode cX0_copyFrom 28 = .ok (.aload_n 1, 1) := by decide +kernel
theorem dX0_copyFrom_29 : decode cX0_copyFrom 29 = .ok (.getfield 20, 3) := by decide +kernel
theorem dX0_copyFrom_32 : decode cX0_copyFrom 32 = .ok (.arraylength, 1) := by decide +kernel
theorem dX0_copyFrom_33 : decode cX0_copyFrom 33 = .ok (.if_icmp .ge 24, 3) := by decide +kernel
theorem dX0_copyFrom_36 : decode cX0_copyFrom 36 = .ok (.aload_n 0, 1) := by decide +kernel
theorem dX0_copyFrom_37 : decode cX0_copyFrom 37 = .ok (.getfield 20, 3) := by decide +kernel
theorem dX0_copyFrom_40 : decode cX0_copyFrom 40 = .ok (.iload_n 2, 1) := by decide +kernel
theorem dX0_copyFrom_41 : decode cX0_copyFrom 41 = .ok (.aaload, 1) := by decide +kernel
theorem dX0_copyFrom_42 : decode cX0_copyFrom 42 = .ok (.aload_n 1, 1) := by decide +kernel
theorem dX0_copyFrom_43 : decode cX0_copyFrom 43 = .ok (.getfield 20, 3) := by decide +kernel
theorem dX0_copyFrom_46 : decode cX0_copyFrom 46 = .ok (.iload_n 2, 1) := by decide +kernel
theorem dX0_copyFrom_47 : decode cX0_copyFrom 47 = .ok (.aaload, 1) := by decide +kernel
theorem dX0_copyFrom_48 : decode cX0_copyFrom 48 = .ok (.invokevirtual 35, 3) := by decide +kernel
theorem dX0_copyFrom_51 : decode cX0_copyFrom 51 = .ok (.iinc 2 1, 3) := by decide +kernel
theorem dX0_copyFrom_54 : decode cX0_copyFrom 54 = .ok (.goto (-36), 3) := by decide +kernel
theorem dX0_copyFrom_57 : decode cX0_copyFrom 57 = .ok (.aload_n 0, 1) := by decide +kernel
theorem dX0_copyFrom_58 : decode cX0_copyFrom 58 = .ok (.aload_n 1, 1) := by decide +kernel
theorem dX0_copyFrom_59 : decode cX0_copyFrom 59 = .ok (.getfield 39, 3) := by decide +kernel
theorem dX0_copyFrom_62 : decode cX0_copyFrom 62 = .ok (.putfield 39, 3) := by decide +kernel
theorem dX0_copyFrom_65 : decode cX0_copyFrom 65 = .ok (.aload_n 0, 1) := by decide +kernel
theorem dX0_copyFrom_66 : decode cX0_copyFrom 66 = .ok (.getfield 27, 3) := by decide +kernel
theorem dX0_copyFrom_69 : decode cX0_copyFrom 69 = .ok (.aload_n 1, 1) := by decide +kernel
theorem dX0_copyFrom_70 : decode cX0_copyFrom 70 = .ok (.getfield 27, 3) := by decide +kernel
theorem dX0_copyFrom_73 : decode cX0_copyFrom 73 = .ok (.invokevirtual 42, 3) := by decide +kernel
theorem dX0_copyFrom_76 : decode cX0_copyFrom 76 = .ok (.aload_n 0, 1) := by decide +kernel
theorem dX0_copyFrom_77 : decode cX0_copyFrom 77 = .ok (.getfield 31, 3) := by decide +kernel
theorem dX0_copyFrom_80 : decode cX0_copyFrom 80 = .ok (.aload_n 1, 1) := by decide +kernel
theorem dX0_copyFrom_81 : decode cX0_copyFrom 81 = .ok (.getfield 31, 3) := by decide +kernel
theorem dX0_copyFrom_84 : decode cX0_copyFrom 84 = .ok (.invokevirtual 42, 3) := by decide +kernel
theorem dX0_copyFrom_87 : decode cX0_copyFrom 87 = .ok (.aload_n 0, 1) := by decide +kernel
theorem dX0_copyFrom_88 : decode cX0_copyFrom 88 = .ok (.aload_n 1, 1) := by decide +kernel
theorem dX0_copyFrom_89 : decode cX0_copyFrom 89 = .ok (.getfield 45, 3) := by decide +kernel
theorem dX0_copyFrom_92 : decode cX0_copyFrom 92 = .ok (.putfield 45, 3) := by decide +kernel
theorem dX0_copyFrom_95 : decode cX0_copyFrom 95 = .ok (.aload_n 0, 1) := by decide +kernel
theorem dX0_copyFrom_96 : decode cX0_copyFrom 96 = .ok (.aload_n 1, 1) := by decide +kernel
theorem dX0_copyFrom_97 : decode cX0_copyFrom 97 = .ok (.getfield 48, 3) := by decide +kernel
theorem dX0_copyFrom_100 : decode cX0_copyFrom 100 = .ok (.putfield 48, 3) := by decide +kernel
theorem dX0_copyFrom_103 : decode cX0_copyFrom 103 = .ok (.aload_n 0, 1) := by decide +kernel
theorem dX0_copyFrom_104 : decode cX0_copyFrom 104 = .ok (.aload_n 1, 1) := by decide +kernel
theorem dX0_copyFrom_105 : decode cX0_copyFrom 105 = .ok (.getfield 51, 3) := by decide +kernel
theorem dX0_copyFrom_108 : decode cX0_copyFrom 108 = .ok (.putfield 51, 3) := by decide +kernel
theorem dX0_copyFrom_111 : decode cX0_copyFrom 111 = .ok (.aload_n 0, 1) := by decide +kernel
theorem dX0_copyFrom_112 : decode cX0_copyFrom 112 = .ok (.aload_n 1, 1) := by decide +kernel
theorem dX0_copyFrom_113 : decode cX0_copyFrom 113 = .ok (.getfield 55, 3) := by decide +kernel
theorem dX0_copyFrom_116 : decode cX0_copyFrom 116 = .ok (.putfield 55, 3) := by decide +kernel
theorem dX0_copyFrom_119 : decode cX0_copyFrom 119 = .ok (.return_, 1) := by decide +kernel
theorem dX0_restart_0 : decode cX0_restart 0 = .ok (.aload_n 0, 1) := by decide +kernel
theorem dX0_restart_1 : decode cX0_restart 1 = .ok (.getfield 20, 3) := by decide +kernel
theorem dX0_restart_4 : decode cX0_restart 4 = .ok (.astore_n 1, 1) := by decide +kernel
theorem dX0_restart_5 : decode cX0_restart 5 = .ok (.aload_n 1, 1) := by decide +kernel
theorem dX0_restart_6 : decode cX0_restart 6 = .ok (.arraylength, 1) := by decide +kernel
theorem dX0_restart_7 : decode cX0_restart 7 = .ok (.istore_n 2, 1) := by decide +kernel
theorem dX0_restart_8 : decode cX0_restart 8 = .ok (.iconst 0, 1) := by decide +kernel
theorem dX0_restart_9 : decode cX0_restart 9 = .ok (.istore_n 3, 1) := by decide +kernel
theorem dX0_restart_10 : decode cX0_restart 10 = .ok (.iload_n 3, 1) := by decide +kernel
theorem dX0_restart_11 : decode cX0_restart 11 = .ok (.iload_n 2, 1) := by decide +kernel
theorem dX0_restart_12 : decode cX0_restart 12 = .ok (.if_icmp .ge 24, 3) := by decide +kernel
theorem dX0_restart_15 : decode cX0_restart 15 = .ok (.aload_n 1, 1) := by decide +kernel
theorem dX0_restart_16 : decode cX0_restart 16 = .ok (.iload_n 3, 1) := by decide +kernel
theorem dX0_restart_17 : decode cX0_restart 17 = .ok (.aaload, 1) := by decide +kernel
theorem dX0_restart_18 : decode cX0_restart 18 = .ok (.astore 4, 2) := by decide +kernel
theorem dX0_restart_20 : decode cX0_restart 20 = .ok (.aload 4, 2) := by decide +kernel
theorem dX0_restart_22 : decode cX0_restart 22 = .ok (.aload 4, 2) := by decide +kernel
theorem dX0_restart_24 : decode cX0_restart 24 = .ok (.getfield 58, 3) := by decide +kernel
theorem dX0_restart_27 : decode cX0_restart 27 = .ok (.putfield 61, 3) := by decide +kernel
theorem dX0_restart_30 : decode cX0_restart 30 = .ok (.iinc 3 1, 3) := by decide +kernel
theorem dX0_restart_33 : decode cX0_restart 33 = .ok (.goto (-23), 3) := by decide +kernel
theorem dX0_restart_36 : decode cX0_restart 36 = .ok (.aload_n 0, 1) := by decide +kernel
theorem dX0_restart_37 : decode cX0_restart 37 = .ok (.getfield 27, 3) := by decide +kernel
theorem dX0_restart_40 : decode cX0_restart 40 = .ok (.iconst 0, 1) := by decide +kernel
theorem dX0_restart_41 : decode cX0_restart 41 = .ok (.putfield 64, 3) := by decide +kernel
theorem dX0_restart_44 : decode cX0_restart 44 = .ok (.aload_n 0, 1) := by decide +kernel
theorem dX0_restart_45 : decode cX0_restart 45 = .ok (.getfield 31, 3) := by decide +kernel
theorem dX0_restart_48 : decode cX0_restart 48 = .ok (.iconst 0, 1) := by decide +kernel
theorem dX0_restart_49 : decode cX0_restart 49 = .ok (.putfield 64, 3) := by decide +kernel
theorem dX0_restart_52 : decode cX0_restart 52 = .ok (.aload_n 0, 1) := by decide +kernel
theorem dX0_restart_53 : decode cX0_restart 53 = .ok (.iconst 0, 1) := by decide +kernel
theorem dX0_restart_54 : decode cX0_restart 54 = .ok (.putfield 45, 3) := by decide +kernel
theorem dX0_restart_57 : decode cX0_restart 57 = .ok (.aload_n 0, 1) := by decide +kernel
theorem dX0_restart_58 : decode cX0_restart 58 = .ok (.iconst 0, 1) := by decide +kernel
theorem dX0_restart_59 : decode cX0_restart 59 = .ok (.putfield 48, 3) := by decide +kernel
theorem dX0_restart_62 : decode cX0_restart 62 = .ok (.aload_n 0, 1) := by decide +kernel
theorem dX0_restart_63 : decode cX0_restart 63 = .ok (.iconst 0, 1) := by decide +kernel
theorem dX0_restart_64 : decode cX0_restart 64 = .ok (.putfield 51, 3) := by decide +kernel
theorem dX0_restart_67 : decode cX0_restart 67 = .ok (.aload_n 0, 1) := by decide +kernel
theorem dX0_restart_68 : decode cX0_restart 68 = .ok (.iconst 0, 1) := by decide +kernel
theorem dX0_restart_69 : decode cX0_restart 69 = .ok (.putfield 55, 3) := by decide +kernel
theorem dX0_restart_72 : decode cX0_restart 72 = .ok (.return_, 1) := by decide +kernel
theorem dX0_hasPile_0 : decode cX0_hasPile 0 = .ok (.iload_n 1, 1) := by decide +kernel
theorem dX0_hasPile_1 : decode cX0_hasPile 1 = .ok (.ifCond .lt 24, 3) := by decide +kernel
theorem dX0_hasPile_4 : decode cX0_hasPile 4 = .ok (.iload_n 1, 1) := by decide +kernel
theorem dX0_hasPile_5 : decode cX0_hasPile 5 = .ok (.aload_n 0, 1) := by decide +kernel
theorem dX0_hasPile_6 : decode cX0_hasPile 6 = .ok (.getfield 39, 3) := by decide +kernel
theorem dX0_hasPile_9 : decode cX0_hasPile 9 = .ok (.if_icmp .ge 16, 3) := by decide +kernel
theorem dX0_hasPile_12 : decode cX0_hasPile 12 = .ok (.iload_n 1, 1) := by decide +kernel
theorem dX0_hasPile_13 : decode cX0_hasPile 13 = .ok (.aload_n 0, 1) := by decide +kernel
theorem dX0_hasPile_14 : decode cX0_hasPile 14 = .ok (.getfield 20, 3) := by decide +kernel
theorem dX0_hasPile_17 : decode cX0_hasPile 17 = .ok (.arraylength, 1) := by decide +kernel
theorem dX0_hasPile_18 : decode cX0_hasPile 18 = .ok (.if_icmp .ge 7, 3) := by decide +kernel
theorem dX0_hasPile_21 : decode cX0_hasPile 21 = .ok (.iconst 1, 1) := by decide +kernel
theorem dX0_hasPile_22 : decode cX0_hasPile 22 = .ok (.goto 4, 3) := by decide +kernel
theorem dX0_hasPile_25 : decode cX0_hasPile 25 = .ok (.iconst 0, 1) := by decide +kernel
theorem dX0_hasPile_26 : decode cX0_hasPile 26 = .ok (.ireturn, 1) := by decide +kernel
theorem dX0_player_0 : decode cX0_player 0 = .ok (.iload_n 1, 1) := by decide +kernel
theorem dX0_player_1 : decode cX0_player 1 = .ok (.ifCond .ne 10, 3) := by decide +kernel
theorem dX0_player_4 : decode cX0_player 4 = .ok (.aload_n 0, 1) := by decide +kernel
theorem dX0_player_5 : decode cX0_player 5 = .ok (.getfield 27, 3) := by decide +kernel
theorem dX0_player_8 : decode cX0_player 8 = .ok (.goto 7, 3) := by decide +kernel
theorem dX0_player_11 : decode cX0_player 11 = .ok (.aload_n 0, 1) := by decide +kernel
theorem dX0_player_12 : decode cX0_player 12 = .ok (.getfield 31, 3) := by decide +kernel
theorem dX0_player_15 : decode cX0_player 15 = .ok (.areturn, 1) := by decide +kernel
theorem dX0_tokenSum_0 : decode cX0_tokenSum 0 = .ok (.iconst 0, 1) := by decide +kernel
theorem dX0_tokenSum_1 : decode cX0_tokenSum 1 = .ok (.istore_n 1, 1) := by decide +kernel
theorem dX0_tokenSum_2 : decode cX0_tokenSum 2 = .ok (.aload_n 0, 1) := by decide +kernel
theorem dX0_tokenSum_3 : decode cX0_tokenSum 3 = .ok (.getfield 20, 3) := by decide +kernel
theorem dX0_tokenSum_6 : decode cX0_tokenSum 6 = .ok (.astore_n 2, 1) := by decide +kernel
theorem dX0_tokenSum_7 : decode cX0_tokenSum 7 = .ok (.aload_n 2, 1) := by decide +kernel
theorem dX0_tokenSum_8 : decode cX0_tokenSum 8 = .ok (.arraylength, 1) := by decide +kernel
theorem dX0_tokenSum_9 : decode cX0_tokenSum 9 = .ok (.istore_n 3, 1) := by decide +kernel
theorem dX0_tokenSum_10 : decode cX0_tokenSum 10 = .ok (.iconst 0, 1) := by decide +kernel
theorem dX0_tokenSum_11 : decode cX0_tokenSum 11 = .ok (.istore 4, 2) := by decide +kernel
theorem dX0_tokenSum_13 : decode cX0_tokenSum 13 = .ok (.iload 4, 2) := by decide +kernel
theorem dX0_tokenSum_15 : decode cX0_tokenSum 15 = .ok (.iload_n 3, 1) := by decide +kernel
theorem dX0_tokenSum_16 : decode cX0_tokenSum 16 = .ok (.if_icmp .ge 23, 3) := by decide +kernel
theorem dX0_tokenSum_19 : decode cX0_tokenSum 19 = .ok (.aload_n 2, 1) := by decide +kernel
theorem dX0_tokenSum_20 : decode cX0_tokenSum 20 = .ok (.iload 4, 2) := by decide +kernel
theorem dX0_tokenSum_22 : decode cX0_tokenSum 22 = .ok (.aaload, 1) := by decide +kernel
theorem dX0_tokenSum_23 : decode cX0_tokenSum 23 = .ok (.astore 5, 2) := by decide +kernel
theorem dX0_tokenSum_25 : decode cX0_tokenSum 25 = .ok (.iload_n 1, 1) := by decide +kernel
theorem dX0_tokenSum_26 : decode cX0_tokenSum 26 = .ok (.aload 5, 2) := by decide +kernel
theorem dX0_tokenSum_28 : decode cX0_tokenSum 28 = .ok (.getfield 61, 3) := by decide +kernel
theorem dX0_tokenSum_31 : decode cX0_tokenSum 31 = .ok (.iadd, 1) := by decide +kernel
theorem dX0_tokenSum_32 : decode cX0_tokenSum 32 = .ok (.istore_n 1, 1) := by decide +kernel
theorem dX0_tokenSum_33 : decode cX0_tokenSum 33 = .ok (.iinc 4 1, 3) := by decide +kernel
theorem dX0_tokenSum_36 : decode cX0_tokenSum 36 = .ok (.goto (-23), 3) := by decide +kernel
theorem dX0_tokenSum_39 : decode cX0_tokenSum 39 = .ok (.iload_n 1, 1) := by decide +kernel
theorem dX0_tokenSum_40 : decode cX0_tokenSum 40 = .ok (.ireturn, 1) := by decide +kernel
set_option maxRecDepth 20000 in
theorem ggX0_moveSet_X8_takesOutOf : GoodIn wsX0_moveSet wsX8_takesOutOf := goodIn_r _ [9] (by decide +kernel) (by decide +kernel)
set_option maxRecDepth 20000 in
theorem gX0_moveSet_X8_takesOutOf_n67 : GoodIn wsX0_moveSet (wsX8_takesOutOf) := ggX0_moveSet_X8_takesOutOf
set_option maxRecDepth 20000 in
theorem ggX0_moveSet_X0_player : GoodIn wsX0_moveSet wsX0_player := goodIn_r _ [14, 15, 16, 21, 22, 23, 24, 25, 26, 27, 28, 29, 30] (by decide +kernel) (by decide +kernel)
set_option maxRecDepth 20000 in
theorem gX0_moveSet_X0_player : GoodIn wsX0_moveSet (wsV RX0 71 RX0 yX0_player wsX0_player) := goodIn_app (goodIn_of _ (by decide +kernel)) ggX0_moveSet_X0_player
set_option maxRecDepth 20000 in
theorem ggX0_moveSet_X0_tokenSum : GoodIn wsX0_moveSet wsX0_tokenSum := goodIn_r _ [20, 2, 21, 22, 23, 24, 25, 26, 27, 28, 29, 30, 31, 32, 33, 34] (by decide +kernel) (by decide +kernel)
set_option maxRecDepth 20000 in
theorem gX0_moveSet_X0_tokenSum : GoodIn wsX0_moveSet (wsV RX0 78 RX0 yX0_tokenSum wsX0_tokenSum) := goodIn_app (goodIn_of _ (by decide +kernel)) ggX0_moveSet_X0_tokenSum
theorem dX0_moveSet_0 : decode cX0_moveSet 0 = .ok (.aload_n 0, 1) := by decide +kernel
theorem dX0_moveSet_1 : decode cX0_moveSet 1 = .ok (.getfield 55, 3) := by decide +kernel
theorem dX0_moveSet_4 : decode cX0_moveSet 4 = .ok (.ifCond .eq 5, 3) := by decide +kernel
theorem dX0_moveSet_7 : decode cX0_moveSet 7 = .ok (.iconst 0, 1) := by decide +kernel
theorem dX0_moveSet_8 : decode cX0_moveSet 8 = .ok (.ireturn, 1) := by decide +kernel
theorem dX0_moveSet_9 : decode cX0_moveSet 9 = .ok (.iconst 0, 1) := by decide +kernel
theorem dX0_moveSet_10 : decode cX0_moveSet 10 = .ok (.istore_n 1, 1) := by decide +kernel
theorem dX0_moveSet_11 : decode cX0_moveSet 11 = .ok (.iconst 0, 1) := by decide +kernel
theorem dX0_moveSet_12 : decode cX0_moveSet 12 = .ok (.istore_n 2, 1) := by decide +kernel
theorem dX0_moveSet_13 : decode cX0_moveSet 13 = .ok (.iload_n 2, 1) := by decide +kernel
theorem dX0_moveSet_14 : decode cX0_moveSet 14 = .ok (.aload_n 0, 1) := by decide +kernel
theorem dX0_moveSet_15 : decode cX0_moveSet 15 = .ok (.getfield 20, 3) := by decide +kernel
theorem dX0_moveSet_18 : decode cX0_moveSet 18 = .ok (.arraylength, 1) := by decide +kernel
theorem dX0_moveSet_19 : decode cX0_moveSet 19 = .ok (.if_icmp .ge 29, 3) := by decide +kernel
theorem dX0_moveSet_22 : decode cX0_moveSet 22 = .ok (.iload_n 1, 1) := by decide +kernel
theorem dX0_moveSet_23 : decode cX0_moveSet 23 = .ok (.aload_n 0, 1) := by decide +kernel
theorem dX0_moveSet_24 : decode cX0_moveSet 24 = .ok (.getfield 20, 3) := by decide +kernel
theorem dX0_moveSet_27 : decode cX0_moveSet 27 = .ok (.iload_n 2, 1) := by decide +kernel
theorem dX0_moveSet_28 : decode cX0_moveSet 28 = .ok (.aaload, 1) := by decide +kernel
theorem dX0_moveSet_29 : decode cX0_moveSet 29 = .ok (.getfield 61, 3) := by decide +kernel
theorem dX0_moveSet_32 : decode cX0_moveSet 32 = .ok (.aload_n 0, 1) := by decide +kernel
theorem dX0_moveSet_33 : decode cX0_moveSet 33 = .ok (.getfield 9, 3) := by decide +kernel
theorem dX0_moveSet_36 : decode cX0_moveSet 36 = .ok (.iload_n 2, 1) := by decide +kernel
theorem dX0_moveSet_37 : decode cX0_moveSet 37 = .ok (.invokestatic 67, 3) := by decide +kernel
theorem dX0_moveSet_40 : decode cX0_moveSet 40 = .ok (.ior, 1) := by decide +kernel
theorem dX0_moveSet_41 : decode cX0_moveSet 41 = .ok (.istore_n 1, 1) := by decide +kernel
theorem dX0_moveSet_42 : decode cX0_moveSet 42 = .ok (.iinc 2 1, 3) := by decide +kernel
theorem dX0_moveSet_45 : decode cX0_moveSet 45 = .ok (.goto (-32), 3) := by decide +kernel
theorem dX0_moveSet_48 : decode cX0_moveSet 48 = .ok (.aload_n 0, 1) := by decide +kernel
theorem dX0_moveSet_49 : decode cX0_moveSet 49 = .ok (.aload_n 0, 1) := by decide +kernel
theorem dX0_moveSet_50 : decode cX0_moveSet 50 = .ok (.getfield 45, 3) := by decide +kernel
theorem dX0_moveSet_53 : decode cX0_moveSet 53 = .ok (.invokevirtual 71, 3) := by decide +kernel
theorem dX0_moveSet_56 : decode cX0_moveSet 56 = .ok (.getfield 75, 3) := by decide +kernel
theorem dX0_moveSet_59 : decode cX0_moveSet 59 = .ok (.ifCond .le 22, 3) := by decide +kernel
theorem dX0_moveSet_62 : decode cX0_moveSet 62 = .ok (.aload_n 0, 1) := by decide +kernel
theorem dX0_moveSet_63 : decode cX0_moveSet 63 = .ok (.getfield 51, 3) := by decide +kernel
theorem dX0_moveSet_66 : decode cX0_moveSet 66 = .ok (.ifCond .ne 15, 3) := by decide +kernel
theorem dX0_moveSet_69 : decode cX0_moveSet 69 = .ok (.aload_n 0, 1) := by decide +kernel
theorem dX0_moveSet_70 : decode cX0_moveSet 70 = .ok (.invokevirtual 78, 3) := by decide +kernel
theorem dX0_moveSet_73 : decode cX0_moveSet 73 = .ok (.ifCond .le 8, 3) := by decide +kernel
theorem dX0_moveSet_76 : decode cX0_moveSet 76 = .ok (.iload_n 1, 1) := by decide +kernel
theorem dX0_moveSet_77 : decode cX0_moveSet 77 = .ok (.ldc 82, 2) := by decide +kernel
theorem dX0_moveSet_79 : decode cX0_moveSet 79 = .ok (.ior, 1) := by decide +kernel
theorem dX0_moveSet_80 : decode cX0_moveSet 80 = .ok (.istore_n 1, 1) := by decide +kernel
theorem dX0_moveSet_81 : decode cX0_moveSet 81 = .ok (.iload_n 1, 1) := by decide +kernel
theorem dX0_moveSet_82 : decode cX0_moveSet 82 = .ok (.ireturn, 1) := by decide +kernel
set_option maxRecDepth 20000 in
theorem ggX0_allows_X0_moveSet : GoodIn wsX0_allows wsX0_moveSet := goodIn_r _ [5, 6, 7, 8, 9, 10, 11, 12, 13, 14, 15, 16, 17, 4, 18, 19, 20, 21, 22, 23, 24, 27, 28, 29, 30, 31, 32, 33, 34, 35, 36, 37, 38, 39, 40, 41, 42] (by decide +kernel) (by decide +kernel)
set_option maxRecDepth 20000 in
theorem gX0_allows_X0_moveSet : GoodIn wsX0_allows (wsV RX0 83 RX0 yX0_moveSet wsX0_moveSet) := goodIn_app (goodIn_of _ (by decide +kernel)) ggX0_allows_X0_moveSet
set_option maxRecDepth 20000 in
theorem ggX0_allows_X8_isIn : GoodIn wsX0_allows wsX8_isIn := goodIn_r _ [26] (by decide +kernel) (by decide +kernel)
set_option maxRecDepth 20000 in
theorem gX0_allows_X8_isIn_n86 : GoodIn wsX0_allows (wsX8_isIn) := ggX0_allows_X8_isIn
theorem dX0_allows_0 : decode cX0_allows 0 = .ok (.aload_n 0, 1) := by decide +kernel
theorem dX0_allows_1 : decode cX0_allows 1 = .ok (.invokevirtual 83, 3) := by decide +kernel
theorem dX0_allows_4 : decode cX0_allows 4 = .ok (.iload_n 1, 1) := by decide +kernel
theorem dX0_allows_5 : decode cX0_allows 5 = .ok (.invokestatic 86, 3) := by decide +kernel
theorem dX0_allows_8 : decode cX0_allows 8 = .ok (.ireturn, 1) := by decide +kernel
set_option maxRecDepth 20000 in
theorem ggX0_isOver_X0_moveSet : GoodIn wsX0_isOver wsX0_moveSet := goodIn_r _ [5, 6, 7, 8, 9, 10, 11, 12, 13, 14, 15, 16, 17, 4, 18, 19, 20, 21, 22, 23, 24, 25, 26, 27, 28, 29, 30, 31, 32, 33, 34, 35, 36, 37, 38, 39, 40] (by decide +kernel) (by decide +kernel)
set_option maxRecDepth 20000 in
theorem gX0_isOver_X0_moveSet : GoodIn wsX0_isOver (wsV RX0 83 RX0 yX0_moveSet wsX0_moveSet) := goodIn_app (goodIn_of _ (by decide +kernel)) ggX0_isOver_X0_moveSet
theorem dX0_isOver_0 : decode cX0_isOver 0 = .ok (.aload_n 0, 1) := by decide +kernel
theorem dX0_isOver_1 : decode cX0_isOver 1 = .ok (.invokevirtual 83, 3) := by decide +kernel
theorem dX0_isOver_4 : decode cX0_isOver 4 = .ok (.ifCond .ne 7, 3) := by decide +kernel
theorem dX0_isOver_7 : decode cX0_isOver 7 = .ok (.iconst 1, 1) := by decide +kernel
theorem dX0_isOver_8 : decode cX0_isOver 8 = .ok (.goto 4, 3) := by decide +kernel
theorem dX0_isOver_11 : decode cX0_isOver 11 = .ok (.iconst 0, 1) := by decide +kernel
theorem dX0_isOver_12 : decode cX0_isOver 12 = .ok (.ireturn, 1) := by decide +kernel
set_option maxRecDepth 20000 in
theorem ggX0_winner_X0_isOver : GoodIn wsX0_winner wsX0_isOver := goodIn_r _ [7, 8, 9, 10, 6, 11, 1, 12, 13, 2, 14, 15, 16, 17, 18, 19, 20, 21, 22, 23, 24, 25, 26, 27, 28, 29, 30, 31, 32, 33, 34, 35, 36, 37, 38, 39, 40, 41, 42, 43, 44] (by decide +kernel) (by decide +kernel)
set_option maxRecDepth 20000 in
theorem gX0_winner_X0_isOver : GoodIn wsX0_winner (wsV RX0 90 RX0 yX0_isOver wsX0_isOver) := goodIn_app (goodIn_of _ (by decide +kernel)) ggX0_winner_X0_isOver
theorem dX0_winner_0 : decode cX0_winner 0 = .ok (.aload_n 0, 1) := by decide +kernel
theorem dX0_winner_1 : decode cX0_winner 1 = .ok (.invokevirtual 90, 3) := by decide +kernel
theorem dX0_winner_4 : decode cX0_winner 4 = .ok (.ifCond .ne 6, 3) := by decide +kernel
theorem dX0_winner_7 : decode cX0_winner 7 = .ok (.bipush (-6), 2) := by decide +kernel
theorem dX0_winner_9 : decode cX0_winner 9 = .ok (.ireturn, 1) := by decide +kernel
theorem dX0_winner_10 : decode cX0_winner 10 = .ok (.aload_n 0, 1) := by decide +kernel
theorem dX0_winner_11 : decode cX0_winner 11 = .ok (.getfield 55, 3) := by decide +kernel
theorem dX0_winner_14 : decode cX0_winner 14 = .ok (.ifCond .eq 10, 3) := by decide +kernel
theorem dX0_winner_17 : decode cX0_winner 17 = .ok (.aload_n 0, 1) := by decide +kernel
theorem dX0_winner_18 : decode cX0_winner 18 = .ok (.getfield 45, 3) := by decide +kernel
theorem dX0_winner_21 : decode cX0_winner 21 = .ok (.goto 9, 3) := by decide +kernel
theorem dX0_winner_24 : decode cX0_winner 24 = .ok (.iconst 1, 1) := by decide +kernel
theorem dX0_winner_25 : decode cX0_winner 25 = .ok (.aload_n 0, 1) := by decide +kernel
theorem dX0_winner_26 : decode cX0_winner 26 = .ok (.getfield 45, 3) := by decide +kernel
theorem dX0_winner_29 : decode cX0_winner 29 = .ok (.isub, 1) := by decide +kernel
theorem dX0_winner_30 : decode cX0_winner 30 = .ok (.ireturn, 1) := by decide +kernel
set_option maxRecDepth 20000 in
theorem ggX0_purse_X0_player : GoodIn wsX0_purse wsX0_player := goodIn_r _ [6, 7, 8, 36, 37, 38, 39, 40, 41, 42, 43, 44, 45] (by decide +kernel) (by decide +kernel)
set_option maxRecDepth 20000 in
theorem gX0_purse_X0_player : GoodIn wsX0_purse (wsV RX0 71 RX0 yX0_player wsX0_player) := goodIn_app (goodIn_of _ (by decide +kernel)) ggX0_purse_X0_player
set_option maxRecDepth 20000 in
theorem ggX0_purse_X0_isOver : GoodIn wsX0_purse wsX0_isOver := goodIn_r _ [12, 13, 14, 15, 5, 16, 17, 18, 19, 20, 21, 22, 23, 24, 25, 2, 3, 4, 6, 7, 8, 26, 27, 28, 29, 36, 37, 38, 39, 40, 41, 42, 43, 44, 45, 46, 47, 48, 49, 34, 35] (by decide +kernel) (by decide +kernel)
set_option maxRecDepth 20000 in
theorem gX0_purse_X0_isOver : GoodIn wsX0_purse (wsV RX0 90 RX0 yX0_isOver wsX0_isOver) := goodIn_app (goodIn_of _ (by decide +kernel)) ggX0_purse_X0_isOver
set_option maxRecDepth 20000 in
theorem ggX0_purse_X0_winner : GoodIn wsX0_purse wsX0_winner := goodIn_r _ [33, 17, 20, 9, 10, 11, 5, 12, 13, 14, 15, 16, 18, 19, 21, 22, 23, 24, 25, 2, 3, 4, 6, 7, 8, 26, 27, 28, 29, 36, 37, 38, 39, 40, 41, 42, 43, 44, 45, 46, 47, 48, 49, 34, 35] (by decide +kernel) (by decide +kernel)
set_option maxRecDepth 20000 in
theorem gX0_purse_X0_winner : GoodIn wsX0_purse (wsV RX0 94 RX0 yX0_winner wsX0_winner) := goodIn_app (goodIn_of _ (by decide +kernel)) ggX0_purse_X0_winner
theorem dX0_purse_0 : decode cX0_purse 0 = .ok (.aload_n 0, 1) := by decide +kernel
theorem dX0_purse_1 : decode cX0_purse 1 = .ok (.iload_n 1, 1) := by decide +kernel
theorem dX0_purse_2 : decode cX0_purse 2 = .ok (.invokevirtual 71, 3) := by decide +kernel
theorem dX0_purse_5 : decode cX0_purse 5 = .ok (.getfield 64, 3) := by decide +kernel
theorem dX0_purse_8 : decode cX0_purse 8 = .ok (.istore_n 2, 1) := by decide +kernel
theorem dX0_purse_9 : decode cX0_purse 9 = .ok (.aload_n 0, 1) := by decide +kernel
theorem dX0_purse_10 : decode cX0_purse 10 = .ok (.invokevirtual 90, 3) := by decide +kernel
theorem dX0_purse_13 : decode cX0_purse 13 = .ok (.ifCond .ne 5, 3) := by decide +kernel
theorem dX0_purse_16 : decode cX0_purse 16 = .ok (.iload_n 2, 1) := by decide +kernel
theorem dX0_purse_17 : decode cX0_purse 17 = .ok (.ireturn, 1) := by decide +kernel
theorem dX0_purse_18 : decode cX0_purse 18 = .ok (.aload_n 0, 1) := by decide +kernel
theorem dX0_purse_19 : decode cX0_purse 19 = .ok (.invokevirtual 94, 3) := by decide +kernel
theorem dX0_purse_22 : decode cX0_purse 22 = .ok (.iload_n 1, 1) := by decide +kernel
theorem dX0_purse_23 : decode cX0_purse 23 = .ok (.if_icmp .ne 12, 3) := by decide +kernel
theorem dX0_purse_26 : decode cX0_purse 26 = .ok (.iload_n 2, 1) := by decide +kernel
theorem dX0_purse_27 : decode cX0_purse 27 = .ok (.aload_n 0, 1) := by decide +kernel
theorem dX0_purse_28 : decode cX0_purse 28 = .ok (.getfield 15, 3) := by decide +kernel
theorem dX0_purse_31 : decode cX0_purse 31 = .ok (.iadd, 1) := by decide +kernel
theorem dX0_purse_32 : decode cX0_purse 32 = .ok (.goto 9, 3) := by decide +kernel
theorem dX0_purse_35 : decode cX0_purse 35 = .ok (.iload_n 2, 1) := by decide +kernel
theorem dX0_purse_36 : decode cX0_purse 36 = .ok (.aload_n 0, 1) := by decide +kernel
theorem dX0_purse_37 : decode cX0_purse 37 = .ok (.getfield 15, 3) := by decide +kernel
theorem dX0_purse_40 : decode cX0_purse 40 = .ok (.isub, 1) := by decide +kernel
theorem dX0_purse_41 : decode cX0_purse 41 = .ok (.ireturn, 1) := by decide +kernel
set_option maxRecDepth 20000 in
theorem ggX0_takeFrom_X0_hasPile : GoodIn wsX0_takeFrom wsX0_hasPile := goodIn_r _ [8, 9, 1, 22, 23, 24, 25, 26, 27, 28, 29, 30, 31] (by decide +kernel) (by decide +kernel)
set_option maxRecDepth 20000 in
theorem gX0_takeFrom_X0_hasPile : GoodIn wsX0_takeFrom (wsV RX0 97 RX0 yX0_hasPile wsX0_hasPile) := goodIn_app (goodIn_of _ (by decide +kernel)) ggX0_takeFrom_X0_hasPile
set_option maxRecDepth 20000 in
theorem ggX0_takeFrom_X0_player : GoodIn wsX0_takeFrom wsX0_player := goodIn_r _ [13, 14, 15, 22, 23, 24, 25, 26, 27, 28, 29, 30, 31] (by decide +kernel) (by decide +kernel)
set_option maxRecDepth 20000 in
theorem gX0_takeFrom_X0_player : GoodIn wsX0_takeFrom (wsV RX0 71 RX0 yX0_player wsX0_player) := goodIn_app (goodIn_of _ (by decide +kernel)) ggX0_takeFrom_X0_player
set_option maxRecDepth 20000 in
theorem ggX0_takeFrom_X0_turnOver : GoodIn wsX0_takeFrom wsX0_turnOver := goodIn_r _ [19, 20, 2, 21, 22, 23, 24, 25, 26, 27, 28, 29, 30, 31] (by decide +kernel) (by decide +kernel)
set_option maxRecDepth 20000 in
theorem gX0_takeFrom_X0_turnOver : GoodIn wsX0_takeFrom (wsV RX0 107 RX0 yX0_turnOver wsX0_turnOver) := goodIn_app (goodIn_of _ (by decide +kernel)) ggX0_takeFrom_X0_turnOver
theorem dX0_takeFrom_0 : decode cX0_takeFrom 0 = .ok (.aload_n 0, 1) := by decide +kernel
theorem dX0_takeFrom_1 : decode cX0_takeFrom 1 = .ok (.iload_n 1, 1) := by decide +kernel
theorem dX0_takeFrom_2 : decode cX0_takeFrom 2 = .ok (.invokevirtual 97, 3) := by decide +kernel
theorem dX0_takeFrom_5 : decode cX0_takeFrom 5 = .ok (.ifCond .ne 5, 3) := by decide +kernel
theorem dX0_takeFrom_8 : decode cX0_takeFrom 8 = .ok (.iconst 0, 1) := by decide +kernel
theorem dX0_takeFrom_9 : decode cX0_takeFrom 9 = .ok (.ireturn, 1) := by decide +kernel
theorem dX0_takeFrom_10 : decode cX0_takeFrom 10 = .ok (.aload_n 0, 1) := by decide +kernel
theorem dX0_takeFrom_11 : decode cX0_takeFrom 11 = .ok (.getfield 20, 3) := by decide +kernel
theorem dX0_takeFrom_14 : decode cX0_takeFrom 14 = .ok (.iload_n 1, 1) := by decide +kernel
theorem dX0_takeFrom_15 : decode cX0_takeFrom 15 = .ok (.aaload, 1) := by decide +kernel
theorem dX0_takeFrom_16 : decode cX0_takeFrom 16 = .ok (.astore_n 3, 1) := by decide +kernel
theorem dX0_takeFrom_17 : decode cX0_takeFrom 17 = .ok (.iload_n 2, 1) := by decide +kernel
theorem dX0_takeFrom_18 : decode cX0_takeFrom 18 = .ok (.aload_n 3, 1) := by decide +kernel
theorem dX0_takeFrom_19 : decode cX0_takeFrom 19 = .ok (.getfield 101, 3) := by decide +kernel
theorem dX0_takeFrom_22 : decode cX0_takeFrom 22 = .ok (.imul, 1) := by decide +kernel
theorem dX0_takeFrom_23 : decode cX0_takeFrom 23 = .ok (.istore 4, 2) := by decide +kernel
theorem dX0_takeFrom_25 : decode cX0_takeFrom 25 = .ok (.aload_n 3, 1) := by decide +kernel
theorem dX0_takeFrom_26 : decode cX0_takeFrom 26 = .ok (.dup, 1) := by decide +kernel
theorem dX0_takeFrom_27 : decode cX0_takeFrom 27 = .ok (.getfield 61, 3) := by decide +kernel
theorem dX0_takeFrom_30 : decode cX0_takeFrom 30 = .ok (.iload_n 2, 1) := by decide +kernel
theorem dX0_takeFrom_31 : decode cX0_takeFrom 31 = .ok (.isub, 1) := by decide +kernel
theorem dX0_takeFrom_32 : decode cX0_takeFrom 32 = .ok (.putfield 61, 3) := by decide +kernel
theorem dX0_takeFrom_35 : decode cX0_takeFrom 35 = .ok (.aload_n 0, 1) := by decide +kernel
theorem dX0_takeFrom_36 : decode cX0_takeFrom 36 = .ok (.aload_n 0, 1) := by decide +kernel
theorem dX0_takeFrom_37 : decode cX0_takeFrom 37 = .ok (.getfield 45, 3) := by decide +kernel
theorem dX0_takeFrom_40 : decode cX0_takeFrom 40 = .ok (.invokevirtual 71, 3) := by decide +kernel
theorem dX0_takeFrom_43 : decode cX0_takeFrom 43 = .ok (.dup, 1) := by decide +kernel
theorem dX0_takeFrom_44 : decode cX0_takeFrom 44 = .ok (.getfield 64, 3) := by decide +kernel
theorem dX0_takeFrom_47 : decode cX0_takeFrom 47 = .ok (.iload 4, 2) := by decide +kernel
theorem dX0_takeFrom_49 : decode cX0_takeFrom 49 = .ok (.iadd, 1) := by decide +kernel
theorem dX0_takeFrom_50 : decode cX0_takeFrom 50 = .ok (.putfield 64, 3) := by decide +kernel
theorem dX0_takeFrom_53 : decode cX0_takeFrom 53 = .ok (.aload_n 0, 1) := by decide +kernel
theorem dX0_takeFrom_54 : decode cX0_takeFrom 54 = .ok (.aload_n 3, 1) := by decide +kernel
theorem dX0_takeFrom_55 : decode cX0_takeFrom 55 = .ok (.getfield 104, 3) := by decide +kernel
theorem dX0_takeFrom_58 : decode cX0_takeFrom 58 = .ok (.ifCond .eq 14, 3) := by decide +kernel
theorem dX0_takeFrom_61 : decode cX0_takeFrom 61 = .ok (.aload_n 3, 1) := by decide +kernel
theorem dX0_takeFrom_62 : decode cX0_takeFrom 62 = .ok (.getfield 61, 3) := by decide +kernel
theorem dX0_takeFrom_65 : decode cX0_takeFrom 65 = .ok (.ifCond .ne 7, 3) := by decide +kernel
theorem dX0_takeFrom_68 : decode cX0_takeFrom 68 = .ok (.iconst 1, 1) := by decide +kernel
theorem dX0_takeFrom_69 : decode cX0_takeFrom 69 = .ok (.goto 4, 3) := by decide +kernel
theorem dX0_takeFrom_72 : decode cX0_takeFrom 72 = .ok (.iconst 0, 1) := by decide +kernel
theorem dX0_takeFrom_73 : decode cX0_takeFrom 73 = .ok (.putfield 55, 3) := by decide +kernel
theorem dX0_takeFrom_76 : decode cX0_takeFrom 76 = .ok (.aload_n 0, 1) := by decide +kernel
theorem dX0_takeFrom_77 : decode cX0_takeFrom 77 = .ok (.iconst 0, 1) := by decide +kernel
theorem dX0_takeFrom_78 : decode cX0_takeFrom 78 = .ok (.invokevirtual 107, 3) := by decide +kernel
theorem dX0_takeFrom_81 : decode cX0_takeFrom 81 = .ok (.iload 4, 2) := by decide +kernel
theorem dX0_takeFrom_83 : decode cX0_takeFrom 83 = .ok (.ireturn, 1) := by decide +kernel
set_option maxRecDepth 20000 in
theorem ggX0_usePass_X0_player : GoodIn wsX0_usePass wsX0_player := goodIn_r _ [6, 7, 8, 15, 16, 17, 18, 19, 20, 21, 22, 23, 24] (by decide +kernel) (by decide +kernel)
set_option maxRecDepth 20000 in
theorem gX0_usePass_X0_player : GoodIn wsX0_usePass (wsV RX0 71 RX0 yX0_player wsX0_player) := goodIn_app (goodIn_of _ (by decide +kernel)) ggX0_usePass_X0_player
set_option maxRecDepth 20000 in
theorem ggX0_usePass_X0_turnOver : GoodIn wsX0_usePass wsX0_turnOver := goodIn_r _ [12, 13, 1, 14, 15, 16, 17, 18, 19, 20, 21, 22, 23, 24] (by decide +kernel) (by decide +kernel)
set_option maxRecDepth 20000 in
theorem gX0_usePass_X0_turnOver : GoodIn wsX0_usePass (wsV RX0 107 RX0 yX0_turnOver wsX0_turnOver) := goodIn_app (goodIn_of _ (by decide +kernel)) ggX0_usePass_X0_turnOver
theorem dX0_usePass_0 : decode cX0_usePass 0 = .ok (.aload_n 0, 1) := by decide +kernel
theorem dX0_usePass_1 : decode cX0_usePass 1 = .ok (.aload_n 0, 1) := by decide +kernel
theorem dX0_usePass_2 : decode cX0_usePass 2 = .ok (.getfield 45, 3) := by decide +kernel
theorem dX0_usePass_5 : decode cX0_usePass 5 = .ok (.invokevirtual 71, 3) := by decide +kernel
theorem dX0_usePass_8 : decode cX0_usePass 8 = .ok (.astore_n 1, 1) := by decide +kernel
theorem dX0_usePass_9 : decode cX0_usePass 9 = .ok (.aload_n 1, 1) := by decide +kernel
theorem dX0_usePass_10 : decode cX0_usePass 10 = .ok (.dup, 1) := by decide +kernel
theorem dX0_usePass_11 : decode cX0_usePass 11 = .ok (.getfield 75, 3) := by decide +kernel
theorem dX0_usePass_14 : decode cX0_usePass 14 = .ok (.iconst 1, 1) := by decide +kernel
theorem dX0_usePass_15 : decode cX0_usePass 15 = .ok (.isub, 1) := by decide +kernel
theorem dX0_usePass_16 : decode cX0_usePass 16 = .ok (.putfield 75, 3) := by decide +kernel
theorem dX0_usePass_19 : decode cX0_usePass 19 = .ok (.aload_n 0, 1) := by decide +kernel
theorem dX0_usePass_20 : decode cX0_usePass 20 = .ok (.iconst 1, 1) := by decide +kernel
theorem dX0_usePass_21 : decode cX0_usePass 21 = .ok (.invokevirtual 107, 3) := by decide +kernel
theorem dX0_usePass_24 : decode cX0_usePass 24 = .ok (.aload_n 1, 1) := by decide +kernel
theorem dX0_usePass_25 : decode cX0_usePass 25 = .ok (.getfield 75, 3) := by decide +kernel
theorem dX0_usePass_28 : decode cX0_usePass 28 = .ok (.ireturn, 1) := by decide +kernel
set_option maxRecDepth 20000 in
theorem ggX0_make_X0_allows : GoodIn wsX0_make wsX0_allows := goodIn_r _ [5, 6, 7, 8, 4, 9, 10, 11, 12, 13, 14, 15, 16, 17, 18, 19, 20, 21, 22, 23, 24, 25, 26, 27, 28, 29, 30, 49, 50, 51, 52, 53, 54, 55, 56, 57, 58, 59, 60, 61, 62, 63, 64] (by decide +kernel) (by decide +kernel)
set_option maxRecDepth 20000 in
theorem gX0_make_X0_allows : GoodIn wsX0_make (wsV RX0 111 RX0 yX0_allows wsX0_allows) := goodIn_app (goodIn_of _ (by decide +kernel)) ggX0_make_X0_allows
set_option maxRecDepth 20000 in
theorem ggX0_make_X0_usePass : GoodIn wsX0_make wsX0_usePass := goodIn_r _ [34, 13, 19, 20, 21, 4, 22, 23, 24, 35, 36, 37, 38, 14, 39, 49, 50, 51, 52, 53, 54, 55, 56, 57, 58, 63, 64] (by decide +kernel) (by decide +kernel)
set_option maxRecDepth 20000 in
theorem gX0_make_X0_usePass : GoodIn wsX0_make (wsV RX0 114 RX0 yX0_usePass wsX0_usePass) := goodIn_app (goodIn_of _ (by decide +kernel)) ggX0_make_X0_usePass
set_option maxRecDepth 20000 in
theorem ggX0_make_X0_takeFrom : GoodIn wsX0_make wsX0_takeFrom := goodIn_r _ [43, 11, 13, 10, 44, 45, 46, 4, 47, 48, 19, 20, 21, 22, 23, 24, 35, 36, 37, 38, 14, 39, 49, 50, 51, 52, 53, 54, 55, 56, 57, 58, 59, 60, 61, 62, 63, 64] (by decide +kernel) (by decide +kernel)
set_option maxRecDepth 20000 in
theorem gX0_make_X0_takeFrom : GoodIn wsX0_make (wsV RX0 117 RX0 yX0_takeFrom wsX0_takeFrom) := goodIn_app (goodIn_of _ (by decide +kernel)) ggX0_make_X0_takeFrom
theorem dX0_make_0 : decode cX0_make 0 = .ok (.aload_n 0, 1) := by decide +kernel
theorem dX0_make_1 : decode cX0_make 1 = .ok (.iload_n 1, 1) := by decide +kernel
theorem dX0_make_2 : decode cX0_make 2 = .ok (.invokevirtual 111, 3) := by decide +kernel
theorem dX0_make_5 : decode cX0_make 5 = .ok (.ifCond .ne 4, 3) := by decide +kernel
theorem dX0_make_8 : decode cX0_make 8 = .ok (.return_, 1) := by decide +kernel
theorem dX0_make_9 : decode cX0_make 9 = .ok (.iload_n 1, 1) := by decide +kernel
theorem dX0_make_10 : decode cX0_make 10 = .ok (.bipush 20, 2) := by decide +kernel
theorem dX0_make_12 : decode cX0_make 12 = .ok (.if_icmp .ne 11, 3) := by decide +kernel
theorem dX0_make_15 : decode cX0_make 15 = .ok (.aload_n 0, 1) := by decide +kernel
theorem dX0_make_16 : decode cX0_make 16 = .ok (.invokevirtual 114, 3) := by decide +kernel
theorem dX0_make_19 : decode cX0_make 19 = .ok (.pop, 1) := by decide +kernel
theorem dX0_make_20 : decode cX0_make 20 = .ok (.goto 16, 3) := by decide +kernel
theorem dX0_make_23 : decode cX0_make 23 = .ok (.aload_n 0, 1) := by decide +kernel
theorem dX0_make_24 : decode cX0_make 24 = .ok (.iload_n 1, 1) := by decide +kernel
theorem dX0_make_25 : decode cX0_make 25 = .ok (.iconst 5, 1) := by decide +kernel
theorem dX0_make_26 : decode cX0_make 26 = .ok (.idiv, 1) := by decide +kernel
theorem dX0_make_27 : decode cX0_make 27 = .ok (.iload_n 1, 1) := by decide +kernel
theorem dX0_make_28 : decode cX0_make 28 = .ok (.iconst 5, 1) := by decide +kernel
theorem dX0_make_29 : decode cX0_make 29 = .ok (.irem, 1) := by decide +kernel
theorem dX0_make_30 : decode cX0_make 30 = .ok (.iconst 1, 1) := by decide +kernel
theorem dX0_make_31 : decode cX0_make 31 = .ok (.iadd, 1) := by decide +kernel
theorem dX0_make_32 : decode cX0_make 32 = .ok (.invokevirtual 117, 3) := by decide +kernel
theorem dX0_make_35 : decode cX0_make 35 = .ok (.pop, 1) := by decide +kernel
theorem dX0_make_36 : decode cX0_make 36 = .ok (.return_, 1) := by decide +kernel
theorem dX0_turnOver_0 : decode cX0_turnOver 0 = .ok (.aload_n 0, 1) := by decide +kernel
theorem dX0_turnOver_1 : decode cX0_turnOver 1 = .ok (.iload_n 1, 1) := by decide +kernel
theorem dX0_turnOver_2 : decode cX0_turnOver 2 = .ok (.putfield 51, 3) := by decide +kernel
theorem dX0_turnOver_5 : decode cX0_turnOver 5 = .ok (.aload_n 0, 1) := by decide +kernel
theorem dX0_turnOver_6 : decode cX0_turnOver 6 = .ok (.iconst 1, 1) := by decide +kernel
theorem dX0_turnOver_7 : decode cX0_turnOver 7 = .ok (.aload_n 0, 1) := by decide +kernel
theorem dX0_turnOver_8 : decode cX0_turnOver 8 = .ok (.getfield 45, 3) := by decide +kernel
theorem dX0_turnOver_11 : decode cX0_turnOver 11 = .ok (.isub, 1) := by decide +kernel
theorem dX0_turnOver_12 : decode cX0_turnOver 12 = .ok (.putfield 45, 3) := by decide +kernel
theorem dX0_turnOver_15 : decode cX0_turnOver 15 = .ok (.aload_n 0, 1) := by decide +kernel
theorem dX0_turnOver_16 : decode cX0_turnOver 16 = .ok (.dup, 1) := by decide +kernel
theorem dX0_turnOver_17 : decode cX0_turnOver 17 = .ok (.getfield 48, 3) := by decide +kernel
theorem dX0_turnOver_20 : decode cX0_turnOver 20 = .ok (.iconst 1, 1) := by decide +kernel
theorem dX0_turnOver_21 : decode cX0_turnOver 21 = .ok (.iadd, 1) := by decide +kernel
theorem dX0_turnOver_22 : decode cX0_turnOver 22 = .ok (.putfield 48, 3) := by decide +kernel
theorem dX0_turnOver_25 : decode cX0_turnOver 25 = .ok (.return_, 1) := by decide +kernel
set_option maxRecDepth 20000 in
theorem ggX1_init_X0_init : GoodIn wsX1_init wsX0_init := goodIn_r _ [9, 10, 2, 3, 11, 12, 13, 14, 15, 16, 17, 18, 19, 20, 21, 22, 23, 24, 25, 26, 27, 30, 31, 32, 33, 34, 35, 36, 37, 38, 39, 40, 41, 42, 43, 44, 45] (by decide +kernel) (by decide +kernel)
set_option maxRecDepth 20000 in
theorem gX1_init_X0_init_n17 : GoodIn wsX1_init (wsX0_init) := ggX1_init_X0_init
theorem dX1_init_0 : decode cX1_init 0 = .ok (.aload_n 0, 1) := by decide +kernel
theorem dX1_init_1 : decode cX1_init 1 = .ok (.invokespecial 3, 3) := by decide +kernel
theorem dX1_init_4 : decode cX1_init 4 = .ok (.aload_n 0, 1) := by decide +kernel
theorem dX1_init_5 : decode cX1_init 5 = .ok (.bipush 6, 2) := by decide +kernel
theorem dX1_init_7 : decode cX1_init 7 = .ok (.anewarray 9, 3) := by decide +kernel
theorem dX1_init_10 : decode cX1_init 10 = .ok (.putfield 11, 3) := by decide +kernel
theorem dX1_init_13 : decode cX1_init 13 = .ok (.iconst 0, 1) := by decide +kernel
theorem dX1_init_14 : decode cX1_init 14 = .ok (.istore_n 1, 1) := by decide +kernel
theorem dX1_init_15 : decode cX1_init 15 = .ok (.iload_n 1, 1) := by decide +kernel
theorem dX1_init_16 : decode cX1_init 16 = .ok (.aload_n 0, 1) := by decide +kernel
theorem dX1_init_17 : decode cX1_init 17 = .ok (.getfield 11, 3) := by decide +kernel
theorem dX1_init_20 : decode cX1_init 20 = .ok (.arraylength, 1) := by decide +kernel
theorem dX1_init_21 : decode cX1_init 21 = .ok (.if_icmp .ge 22, 3) := by decide +kernel
theorem dX1_init_24 : decode cX1_init 24 = .ok (.aload_n 0, 1) := by decide +kernel
theorem dX1_init_25 : decode cX1_init 25 = .ok (.getfield 11, 3) := by decide +kernel
theorem dX1_init_28 : decode cX1_init 28 = .ok (.iload_n 1, 1) := by decide +kernel
theorem dX1_init_29 : decode cX1_init 29 = .ok (.new 9, 3) := by decide +kernel
theorem dX1_init_32 : decode cX1_init 32 = .ok (.dup, 1) := by decide +kernel
theorem dX1_init_33 : decode cX1_init 33 = .ok (.invokespecial 17, 3) := by decide +kernel
theorem dX1_init_36 : decode cX1_init 36 = .ok (.aastore, 1) := by decide +kernel
theorem dX1_init_37 : decode cX1_init 37 = .ok (.iinc 1 1, 3) := by decide +kernel
theorem dX1_init_40 : decode cX1_init 40 = .ok (.goto (-25), 3) := by decide +kernel
theorem dX1_init_43 : decode cX1_init 43 = .ok (.return_, 1) := by decide +kernel
set_option maxRecDepth 20000 in
theorem ggX1_add_X1_dropOldest : GoodIn wsX1_add wsX1_dropOldest := goodIn_r _ [7, 2, 1, 36, 37] (by decide +kernel) (by decide +kernel)
set_option maxRecDepth 20000 in
theorem gX1_add_X1_dropOldest : GoodIn wsX1_add (wsV RX1 22 RX1 yX1_dropOldest wsX1_dropOldest) := goodIn_app (goodIn_of _ (by decide +kernel)) ggX1_add_X1_dropOldest
set_option maxRecDepth 20000 in
theorem ggX1_add_X0_copyFrom : GoodIn wsX1_add wsX0_copyFrom := goodIn_r _ [11, 12, 13, 14, 15, 16, 17, 18, 19, 20, 21, 22, 23, 24, 25, 26, 27, 28, 29, 30, 31, 32, 33, 34, 35, 38, 39, 40, 41, 42, 43, 44, 45, 46, 47, 48, 49, 50, 51, 52, 53] (by decide +kernel) (by decide +kernel)
set_option maxRecDepth 20000 in
theorem gX1_add_X0_copyFrom_n25 : GoodIn wsX1_add (wsX0_copyFrom) := ggX1_add_X0_copyFrom
theorem dX1_add_0 : decode cX1_add 0 = .ok (.aload_n 0, 1) := by decide +kernel
theorem dX1_add_1 : decode cX1_add 1 = .ok (.getfield 18, 3) := by decide +kernel
theorem dX1_add_4 : decode cX1_add 4 = .ok (.aload_n 0, 1) := by decide +kernel
theorem dX1_add_5 : decode cX1_add 5 = .ok (.getfield 11, 3) := by decide +kernel
theorem dX1_add_8 : decode cX1_add 8 = .ok (.arraylength, 1) := by decide +kernel
theorem dX1_add_9 : decode cX1_add 9 = .ok (.if_icmp .lt 7, 3) := by decide +kernel
theorem dX1_add_12 : decode cX1_add 12 = .ok (.aload_n 0, 1) := by decide +kernel
theorem dX1_add_13 : decode cX1_add 13 = .ok (.invokevirtual 22, 3) := by decide +kernel
theorem dX1_add_16 : decode cX1_add 16 = .ok (.aload_n 0, 1) := by decide +kernel
theorem dX1_add_17 : decode cX1_add 17 = .ok (.getfield 18, 3) := by decide +kernel
theorem dX1_add_20 : decode cX1_add 20 = .ok (.ifCond .lt 38, 3) := by decide +kernel
theorem dX1_add_23 : decode cX1_add 23 = .ok (.aload_n 0, 1) := by decide +kernel
theorem dX1_add_24 : decode cX1_add 24 = .ok (.getfield 18, 3) := by decide +kernel
theorem dX1_add_27 : decode cX1_add 27 = .ok (.aload_n 0, 1) := by decide +kernel
theorem dX1_add_28 : decode cX1_add 28 = .ok (.getfield 11, 3) := by decide +kernel
theorem dX1_add_31 : decode cX1_add 31 = .ok (.arraylength, 1) := by decide +kernel
theorem dX1_add_32 : decode cX1_add 32 = .ok (.if_icmp .ge 26, 3) := by decide +kernel
theorem dX1_add_35 : decode cX1_add 35 = .ok (.aload_n 0, 1) := by decide +kernel
theorem dX1_add_36 : decode cX1_add 36 = .ok (.getfield 11, 3) := by decide +kernel
theorem dX1_add_39 : decode cX1_add 39 = .ok (.aload_n 0, 1) := by decide +kernel
theorem dX1_add_40 : decode cX1_add 40 = .ok (.getfield 18, 3) := by decide +kernel
theorem dX1_add_43 : decode cX1_add 43 = .ok (.aaload, 1) := by decide +kernel
theorem dX1_add_44 : decode cX1_add 44 = .ok (.aload_n 1, 1) := by decide +kernel
theorem dX1_add_45 : decode cX1_add 45 = .ok (.invokevirtual 25, 3) := by decide +kernel
theorem dX1_add_48 : decode cX1_add 48 = .ok (.aload_n 0, 1) := by decide +kernel
theorem dX1_add_49 : decode cX1_add 49 = .ok (.dup, 1) := by decide +kernel
theorem dX1_add_50 : decode cX1_add 50 = .ok (.getfield 18, 3) := by decide +kernel
theorem dX1_add_53 : decode cX1_add 53 = .ok (.iconst 1, 1) := by decide +kernel
theorem dX1_add_54 : decode cX1_add 54 = .ok (.iadd, 1) := by decide +kernel
theorem dX1_add_55 : decode cX1_add 55 = .ok (.putfield 18, 3) := by decide +kernel
theorem dX1_add_58 : decode cX1_add 58 = .ok (.return_, 1) := by decide +kernel
theorem dX1_dropOldest_0 : decode cX1_dropOldest 0 = .ok (.iconst 1, 1) := by decide +kernel
theorem dX1_dropOldest_1 : decode cX1_dropOldest 1 = .ok (.istore_n 1, 1) := by decide +kernel
theorem dX1_dropOldest_2 : decode cX1_dropOldest 2 = .ok (.iload_n 1, 1) := by decide +kernel
theorem dX1_dropOldest_3 : decode cX1_dropOldest 3 = .ok (.aload_n 0, 1) := by decide +kernel
theorem dX1_dropOldest_4 : decode cX1_dropOldest 4 = .ok (.getfield 11, 3) := by decide +kernel
theorem dX1_dropOldest_7 : decode cX1_dropOldest 7 = .ok (.arraylength, 1) := by decide +kernel
theorem dX1_dropOldest_8 : decode cX1_dropOldest 8 = .ok (.if_icmp .ge 39, 3) := by decide +kernel
theorem dX1_dropOldest_11 : decode cX1_dropOldest 11 = .ok (.aload_n 0, 1) := by decide +kernel
theorem dX1_dropOldest_12 : decode cX1_dropOldest 12 = .ok (.getfield 11, 3) := by decide +kernel
theorem dX1_dropOldest_15 : decode cX1_dropOldest 15 = .ok (.iload_n 1, 1) := by decide +kernel
theorem dX1_dropOldest_16 : decode cX1_dropOldest 16 = .ok (.iconst 1, 1) := by decide +kernel
theorem dX1_dropOldest_17 : decode cX1_dropOldest 17 = .ok (.isub, 1) := by decide +kernel
theorem dX1_dropOldest_18 : decode cX1_dropOldest 18 = .ok (.aaload, 1) := by decide +kernel
theorem dX1_dropOldest_19 : decode cX1_dropOldest 19 = .ok (.astore_n 2, 1) := by decide +kernel
theorem dX1_dropOldest_20 : decode cX1_dropOldest 20 = .ok (.aload_n 0, 1) := by decide +kernel
theorem dX1_dropOldest_21 : decode cX1_dropOldest 21 = .ok (.getfield 11, 3) := by decide +kernel
theorem dX1_dropOldest_24 : decode cX1_dropOldest 24 = .ok (.iload_n 1, 1) := by decide +kernel
theorem dX1_dropOldest_25 : decode cX1_dropOldest 25 = .ok (.iconst 1, 1) := by decide +kernel
theorem dX1_dropOldest_26 : decode cX1_dropOldest 26 = .ok (.isub, 1) := by decide +kernel
theorem dX1_dropOldest_27 : decode cX1_dropOldest 27 = .ok (.aload_n 0, 1) := by decide +kernel
theorem dX1_dropOldest_28 : decode cX1_dropOldest 28 = .ok (.getfield 11, 3) := by decide +kernel
theorem dX1_dropOldest_31 : decode cX1_dropOldest 31 = .ok (.iload_n 1, 1) := by decide +kernel
theorem dX1_dropOldest_32 : decode cX1_dropOldest 32 = .ok (.aaload, 1) := by decide +kernel
theorem dX1_dropOldest_33 : decode cX1_dropOldest 33 = .ok (.aastore, 1) := by decide +kernel
theorem dX1_dropOldest_34 : decode cX1_dropOldest 34 = .ok (.aload_n 0, 1) := by decide +kernel
theorem dX1_dropOldest_35 : decode cX1_dropOldest 35 = .ok (.getfield 11, 3) := by decide +kernel
theorem dX1_dropOldest_38 : decode cX1_dropOldest 38 = .ok (.iload_n 1, 1) := by decide +kernel
theorem dX1_dropOldest_39 : decode cX1_dropOldest 39 = .ok (.aload_n 2, 1) := by decide +kernel
theorem dX1_dropOldest_40 : decode cX1_dropOldest 40 = .ok (.aastore, 1) := by decide +kernel
theorem dX1_dropOldest_41 : decode cX1_dropOldest 41 = .ok (.iinc 1 1, 3) := by decide +kernel
theorem dX1_dropOldest_44 : decode cX1_dropOldest 44 = .ok (.goto (-42), 3) := by decide +kernel
theorem dX1_dropOldest_47 : decode cX1_dropOldest 47 = .ok (.aload_n 0, 1) := by decide +kernel
theorem dX1_dropOldest_48 : decode cX1_dropOldest 48 = .ok (.dup, 1) := by decide +kernel
theorem dX1_dropOldest_49 : decode cX1_dropOldest 49 = .ok (.getfield 18, 3) := by decide +kernel
theorem dX1_dropOldest_52 : decode cX1_dropOldest 52 = .ok (.iconst 1, 1) := by decide +kernel
theorem dX1_dropOldest_53 : decode cX1_dropOldest 53 = .ok (.isub, 1) := by decide +kernel
theorem dX1_dropOldest_54 : decode cX1_dropOldest 54 = .ok (.putfield 18, 3) := by decide +kernel
theorem dX1_dropOldest_57 : decode cX1_dropOldest 57 = .ok (.return_, 1) := by decide +kernel
set_option maxRecDepth 20000 in
theorem ggX1_takeBack_X0_copyFrom : GoodIn wsX1_takeBack wsX0_copyFrom := goodIn_r _ [6, 7, 8, 9, 10, 11, 12, 13, 14, 15, 16, 17, 18, 19, 20, 21, 22, 23, 24, 25, 26, 27, 28, 29, 30, 33, 34, 35, 36, 37, 38, 39, 40, 41, 42, 43, 44, 45, 46, 47, 48] (by decide +kernel) (by decide +kernel)
set_option maxRecDepth 20000 in
theorem gX1_takeBack_X0_copyFrom_n25 : GoodIn wsX1_takeBack (wsX0_copyFrom) := ggX1_takeBack_X0_copyFrom
theorem dX1_takeBack_0 : decode cX1_takeBack 0 = .ok (.aload_n 0, 1) := by decide +kernel
theorem dX1_takeBack_1 : decode cX1_takeBack 1 = .ok (.getfield 18, 3) := by decide +kernel
theorem dX1_takeBack_4 : decode cX1_takeBack 4 = .ok (.iconst 1, 1) := by decide +kernel
theorem dX1_takeBack_5 : decode cX1_takeBack 5 = .ok (.if_icmp .lt 15, 3) := by decide +kernel
theorem dX1_takeBack_8 : decode cX1_takeBack 8 = .ok (.aload_n 0, 1) := by decide +kernel
theorem dX1_takeBack_9 : decode cX1_takeBack 9 = .ok (.getfield 18, 3) := by decide +kernel
theorem dX1_takeBack_12 : decode cX1_takeBack 12 = .ok (.aload_n 0, 1) := by decide +kernel
theorem dX1_takeBack_13 : decode cX1_takeBack 13 = .ok (.getfield 11, 3) := by decide +kernel
theorem dX1_takeBack_16 : decode cX1_takeBack 16 = .ok (.arraylength, 1) := by decide +kernel
theorem dX1_takeBack_17 : decode cX1_takeBack 17 = .ok (.if_icmp .le 5, 3) := by decide +kernel
theorem dX1_takeBack_20 : decode cX1_takeBack 20 = .ok (.iconst 0, 1) := by decide +kernel
theorem dX1_takeBack_21 : decode cX1_takeBack 21 = .ok (.ireturn, 1) := by decide +kernel
theorem dX1_takeBack_22 : decode cX1_takeBack 22 = .ok (.aload_n 0, 1) := by decide +kernel
theorem dX1_takeBack_23 : decode cX1_takeBack 23 = .ok (.dup, 1) := by decide +kernel
theorem dX1_takeBack_24 : decode cX1_takeBack 24 = .ok (.getfield 18, 3) := by decide +kernel
theorem dX1_takeBack_27 : decode cX1_takeBack 27 = .ok (.iconst 1, 1) := by decide +kernel
theorem dX1_takeBack_28 : decode cX1_takeBack 28 = .ok (.isub, 1) := by decide +kernel
theorem dX1_takeBack_29 : decode cX1_takeBack 29 = .ok (.putfield 18, 3) := by decide +kernel
theorem dX1_takeBack_32 : decode cX1_takeBack 32 = .ok (.aload_n 1, 1) := by decide +kernel
theorem dX1_takeBack_33 : decode cX1_takeBack 33 = .ok (.aload_n 0, 1) := by decide +kernel
theorem dX1_takeBack_34 : decode cX1_takeBack 34 = .ok (.getfield 11, 3) := by decide +kernel
theorem dX1_takeBack_37 : decode cX1_takeBack 37 = .ok (.aload_n 0, 1) := by decide +kernel
theorem dX1_takeBack_38 : decode cX1_takeBack 38 = .ok (.getfield 18, 3) := by decide +kernel
theorem dX1_takeBack_41 : decode cX1_takeBack 41 = .ok (.aaload, 1) := by decide +kernel
theorem dX1_takeBack_42 : decode cX1_takeBack 42 = .ok (.invokevirtual 25, 3) := by decide +kernel
theorem dX1_takeBack_45 : decode cX1_takeBack 45 = .ok (.iconst 1, 1) := by decide +kernel
theorem dX1_takeBack_46 : decode cX1_takeBack 46 = .ok (.ireturn, 1) := by decide +kernel
theorem dX2_init_0 : decode cX2_init 0 = .ok (.aload_n 0, 1) := by decide +kernel
theorem dX2_init_1 : decode cX2_init 1 = .ok (.invokespecial 3, 3) := by decide +kernel
theorem dX2_init_4 : decode cX2_init 4 = .ok (.aload_n 0, 1) := by decide +kernel
theorem dX2_init_5 : decode cX2_init 5 = .ok (.bipush 80, 2) := by decide +kernel
theorem dX2_init_7 : decode cX2_init 7 = .ok (.newarray .char, 2) := by decide +kernel
theorem dX2_init_9 : decode cX2_init 9 = .ok (.putfield 9, 3) := by decide +kernel
theorem dX2_init_12 : decode cX2_init 12 = .ok (.return_, 1) := by decide +kernel
theorem dX3_init_0 : decode cX3_init 0 = .ok (.aload_n 0, 1) := by decide +kernel
theorem dX3_init_1 : decode cX3_init 1 = .ok (.invokespecial 1, 3) := by decide +kernel
theorem dX3_init_4 : decode cX3_init 4 = .ok (.return_, 1) := by decide +kernel
theorem dX3_fill_0 : decode cX3_fill 0 = .ok (.aload_n 0, 1) := by decide +kernel
theorem dX3_fill_1 : decode cX3_fill 1 = .ok (.iload_n 1, 1) := by decide +kernel
theorem dX3_fill_2 : decode cX3_fill 2 = .ok (.putfield 7, 3) := by decide +kernel
theorem dX3_fill_5 : decode cX3_fill 5 = .ok (.aload_n 0, 1) := by decide +kernel
theorem dX3_fill_6 : decode cX3_fill 6 = .ok (.iload_n 1, 1) := by decide +kernel
theorem dX3_fill_7 : decode cX3_fill 7 = .ok (.putfield 13, 3) := by decide +kernel
theorem dX3_fill_10 : decode cX3_fill 10 = .ok (.aload_n 0, 1) := by decide +kernel
theorem dX3_fill_11 : decode cX3_fill 11 = .ok (.iload_n 2, 1) := by decide +kernel
theorem dX3_fill_12 : decode cX3_fill 12 = .ok (.putfield 16, 3) := by decide +kernel
theorem dX3_fill_15 : decode cX3_fill 15 = .ok (.aload_n 0, 1) := by decide +kernel
theorem dX3_fill_16 : decode cX3_fill 16 = .ok (.iload_n 3, 1) := by decide +kernel
theorem dX3_fill_17 : decode cX3_fill 17 = .ok (.putfield 19, 3) := by decide +kernel
theorem dX3_fill_20 : decode cX3_fill 20 = .ok (.return_, 1) := by decide +kernel
theorem dX3_copyFrom_0 : decode cX3_copyFrom 0 = .ok (.aload_n 0, 1) := by decide +kernel
theorem dX3_copyFrom_1 : decode cX3_copyFrom 1 = .ok (.aload_n 1, 1) := by decide +kernel
theorem dX3_copyFrom_2 : decode cX3_copyFrom 2 = .ok (.getfield 7, 3) := by decide +kernel
theorem dX3_copyFrom_5 : decode cX3_copyFrom 5 = .ok (.putfield 7, 3) := by decide +kernel
theorem dX3_copyFrom_8 : decode cX3_copyFrom 8 = .ok (.aload_n 0, 1) := by decide +kernel
theorem dX3_copyFrom_9 : decode cX3_copyFrom 9 = .ok (.aload_n 1, 1) := by decide +kernel
theorem dX3_copyFrom_10 : decode cX3_copyFrom 10 = .ok (.getfield 13, 3) := by decide +kernel
theorem dX3_copyFrom_13 : decode cX3_copyFrom 13 = .ok (.putfield 13, 3) := by decide +kernel
theorem dX3_copyFrom_16 : decode cX3_copyFrom 16 = .ok (.aload_n 0, 1) := by decide +kernel
theorem dX3_copyFrom_17 : decode cX3_copyFrom 17 = .ok (.aload_n 1, 1) := by decide +kernel
theorem dX3_copyFrom_18 : decode cX3_copyFrom 18 = .ok (.getfield 16, 3) := by decide +kernel
theorem dX3_copyFrom_21 : decode cX3_copyFrom 21 = .ok (.putfield 16, 3) := by decide +kernel
theorem dX3_copyFrom_24 : decode cX3_copyFrom 24 = .ok (.aload_n 0, 1) := by decide +kernel
theorem dX3_copyFrom_25 : decode cX3_copyFrom 25 = .ok (.aload_n 1, 1) := by decide +kernel
theorem dX3_copyFrom_26 : decode cX3_copyFrom 26 = .ok (.getfield 19, 3) := by decide +kernel
theorem dX3_copyFrom_29 : decode cX3_copyFrom 29 = .ok (.putfield 19, 3) := by decide +kernel
theorem dX3_copyFrom_32 : decode cX3_copyFrom 32 = .ok (.return_, 1) := by decide +kernel
theorem dX4_init_0 : decode cX4_init 0 = .ok (.aload_n 0, 1) := by decide +kernel
theorem dX4_init_1 : decode cX4_init 1 = .ok (.invokespecial 1, 3) := by decide +kernel
theorem dX4_init_4 : decode cX4_init 4 = .ok (.return_, 1) := by decide +kernel
theorem dX4_copyFrom_0 : decode cX4_copyFrom 0 = .ok (.aload_n 0, 1) := by decide +kernel
theorem dX4_copyFrom_1 : decode cX4_copyFrom 1 = .ok (.aload_n 1, 1) := by decide +kernel
theorem dX4_copyFrom_2 : decode cX4_copyFrom 2 = .ok (.getfield 7, 3) := by decide +kernel
theorem dX4_copyFrom_5 : decode cX4_copyFrom 5 = .ok (.putfield 7, 3) := by decide +kernel
theorem dX4_copyFrom_8 : decode cX4_copyFrom 8 = .ok (.aload_n 0, 1) := by decide +kernel
theorem dX4_copyFrom_9 : decode cX4_copyFrom 9 = .ok (.aload_n 1, 1) := by decide +kernel
theorem dX4_copyFrom_10 : decode cX4_copyFrom 10 = .ok (.getfield 13, 3) := by decide +kernel
theorem dX4_copyFrom_13 : decode cX4_copyFrom 13 = .ok (.putfield 13, 3) := by decide +kernel
theorem dX4_copyFrom_16 : decode cX4_copyFrom 16 = .ok (.return_, 1) := by decide +kernel
theorem dX5_init_0 : decode cX5_init 0 = .ok (.aload_n 0, 1) := by decide +kernel
theorem dX5_init_1 : decode cX5_init 1 = .ok (.invokespecial 3, 3) := by decide +kernel
theorem dX5_init_4 : decode cX5_init 4 = .ok (.aload_n 0, 1) := by decide +kernel
theorem dX5_init_5 : decode cX5_init 5 = .ok (.sipush 201, 3) := by decide +kernel
theorem dX5_init_8 : decode cX5_init 8 = .ok (.newarray .int, 2) := by decide +kernel
theorem dX5_init_10 : decode cX5_init 10 = .ok (.putfield 9, 3) := by decide +kernel
theorem dX5_init_13 : decode cX5_init 13 = .ok (.return_, 1) := by decide +kernel
set_option maxRecDepth 20000 in
theorem ggX5_nimber_X5_learn : GoodIn wsX5_nimber wsX5_learn := goodIn_r _ [6, 7, 1, 8, 9, 10, 5, 11, 12, 13, 14, 15, 16, 17, 18, 19] (by decide +kernel) (by decide +kernel)
set_option maxRecDepth 20000 in
theorem gX5_nimber_X5_learn : GoodIn wsX5_nimber (wsV RX5 15 RX5 yX5_learn wsX5_learn) := goodIn_app (goodIn_of _ (by decide +kernel)) ggX5_nimber_X5_learn
theorem dX5_nimber_0 : decode cX5_nimber 0 = .ok (.aload_n 0, 1) := by decide +kernel
theorem dX5_nimber_1 : decode cX5_nimber 1 = .ok (.iload_n 1, 1) := by decide +kernel
theorem dX5_nimber_2 : decode cX5_nimber 2 = .ok (.invokevirtual 15, 3) := by decide +kernel
theorem dX5_nimber_5 : decode cX5_nimber 5 = .ok (.iload_n 2, 1) := by decide +kernel
theorem dX5_nimber_6 : decode cX5_nimber 6 = .ok (.ifCond .lt 21, 3) := by decide +kernel
theorem dX5_nimber_9 : decode cX5_nimber 9 = .ok (.iload_n 2, 1) := by decide +kernel
theorem dX5_nimber_10 : decode cX5_nimber 10 = .ok (.aload_n 0, 1) := by decide +kernel
theorem dX5_nimber_11 : decode cX5_nimber 11 = .ok (.getfield 9, 3) := by decide +kernel
theorem dX5_nimber_14 : decode cX5_nimber 14 = .ok (.arraylength, 1) := by decide +kernel
theorem dX5_nimber_15 : decode cX5_nimber 15 = .ok (.if_icmp .ge 12, 3) := by decide +kernel
theorem dX5_nimber_18 : decode cX5_nimber 18 = .ok (.aload_n 0, 1) := by decide +kernel
theorem dX5_nimber_19 : decode cX5_nimber 19 = .ok (.getfield 9, 3) := by decide +kernel
theorem dX5_nimber_22 : decode cX5_nimber 22 = .ok (.iload_n 2, 1) := by decide +kernel
theorem dX5_nimber_23 : decode cX5_nimber 23 = .ok (.iaload, 1) := by decide +kernel
theorem dX5_nimber_24 : decode cX5_nimber 24 = .ok (.goto 4, 3) := by decide +kernel
theorem dX5_nimber_27 : decode cX5_nimber 27 = .ok (.iconst 0, 1) := by decide +kernel
theorem dX5_nimber_28 : decode cX5_nimber 28 = .ok (.ireturn, 1) := by decide +kernel
set_option maxRecDepth 20000 in
theorem ggX5_learn_X5_nimbersBehind : GoodIn wsX5_learn wsX5_nimbersBehind := goodIn_r _ [7, 2, 8, 9, 10, 14, 15] (by decide +kernel) (by decide +kernel)
set_option maxRecDepth 20000 in
theorem gX5_learn_X5_nimbersBehind : GoodIn wsX5_learn (wsV RX5 27 RX5 yX5_nimbersBehind wsX5_nimbersBehind) := goodIn_app (goodIn_of _ (by decide +kernel)) ggX5_learn_X5_nimbersBehind
set_option maxRecDepth 20000 in
theorem ggX5_learn_X5_leastOutside : GoodIn wsX5_learn wsX5_leastOutside := goodIn_r _ [13, 8, 9, 10] (by decide +kernel) (by decide +kernel)
set_option maxRecDepth 20000 in
theorem gX5_learn_X5_leastOutside : GoodIn wsX5_learn (va_wsS RX5 30 yX5_leastOutside wsX5_leastOutside) := goodIn_app (goodIn_of _ (by decide +kernel)) ggX5_learn_X5_leastOutside
theorem dX5_learn_0 : decode cX5_learn 0 = .ok (.iload_n 1, 1) := by decide +kernel
theorem dX5_learn_1 : decode cX5_learn 1 = .ok (.aload_n 0, 1) := by decide +kernel
theorem dX5_learn_2 : decode cX5_learn 2 = .ok (.getfield 23, 3) := by decide +kernel
theorem dX5_learn_5 : decode cX5_learn 5 = .ok (.if_icmp .eq 40, 3) := by decide +kernel
theorem dX5_learn_8 : decode cX5_learn 8 = .ok (.iconst 0, 1) := by decide +kernel
theorem dX5_learn_9 : decode cX5_learn 9 = .ok (.istore_n 2, 1) := by decide +kernel
theorem dX5_learn_10 : decode cX5_learn 10 = .ok (.iload_n 2, 1) := by decide +kernel
theorem dX5_learn_11 : decode cX5_learn 11 = .ok (.aload_n 0, 1) := by decide +kernel
theorem dX5_learn_12 : decode cX5_learn 12 = .ok (.getfield 9, 3) := by decide +kernel
theorem dX5_learn_15 : decode cX5_learn 15 = .ok (.arraylength, 1) := by decide +kernel
theorem dX5_learn_16 : decode cX5_learn 16 = .ok (.if_icmp .ge 24, 3) := by decide +kernel
theorem dX5_learn_19 : decode cX5_learn 19 = .ok (.aload_n 0, 1) := by decide +kernel
theorem dX5_learn_20 : decode cX5_learn 20 = .ok (.getfield 9, 3) := by decide +kernel
theorem dX5_learn_23 : decode cX5_learn 23 = .ok (.iload_n 2, 1) := by decide +kernel
theorem dX5_learn_24 : decode cX5_learn 24 = .ok (.aload_n 0, 1) := by decide +kernel
theorem dX5_learn_25 : decode cX5_learn 25 = .ok (.iload_n 1, 1) := by decide +kernel
theorem dX5_learn_26 : decode cX5_learn 26 = .ok (.iload_n 2, 1) := by decide +kernel
theorem dX5_learn_27 : decode cX5_learn 27 = .ok (.invokevirtual 27, 3) := by decide +kernel
theorem dX5_learn_30 : decode cX5_learn 30 = .ok (.invokestatic 30, 3) := by decide +kernel
theorem dX5_learn_33 : decode cX5_learn 33 = .ok (.iastore, 1) := by decide +kernel
theorem dX5_learn_34 : decode cX5_learn 34 = .ok (.iinc 2 1, 3) := by decide +kernel
theorem dX5_learn_37 : decode cX5_learn 37 = .ok (.goto (-27), 3) := by decide +kernel
theorem dX5_learn_40 : decode cX5_learn 40 = .ok (.aload_n 0, 1) := by decide +kernel
theorem dX5_learn_41 : decode cX5_learn 41 = .ok (.iload_n 1, 1) := by decide +kernel
theorem dX5_learn_42 : decode cX5_learn 42 = .ok (.putfield 23, 3) := by decide +kernel
theorem dX5_learn_45 : decode cX5_learn 45 = .ok (.return_, 1) := by decide +kernel
set_option maxRecDepth 20000 in
theorem ggX5_nimbersBehind_X8_isIn : GoodIn wsX5_nimbersBehind wsX8_isIn := goodIn_r _ [4] (by decide +kernel) (by decide +kernel)
set_option maxRecDepth 20000 in
theorem gX5_nimbersBehind_X8_isIn_n34 : GoodIn wsX5_nimbersBehind (wsX8_isIn) := ggX5_nimbersBehind_X8_isIn
theorem dX5_nimbersBehind_0 : decode cX5_nimbersBehind 0 = .ok (.iconst 0, 1) := by decide +kernel
theorem dX5_nimbersBehind_1 : decode cX5_nimbersBehind 1 = .ok (.istore_n 3, 1) := by decide +kernel
theorem dX5_nimbersBehind_2 : decode cX5_nimbersBehind 2 = .ok (.iconst 1, 1) := by decide +kernel
theorem dX5_nimbersBehind_3 : decode cX5_nimbersBehind 3 = .ok (.istore 4, 2) := by decide +kernel
theorem dX5_nimbersBehind_5 : decode cX5_nimbersBehind 5 = .ok (.iload 4, 2) := by decide +kernel
theorem dX5_nimbersBehind_7 : decode cX5_nimbersBehind 7 = .ok (.iconst 5, 1) := by decide +kernel
theorem dX5_nimbersBehind_8 : decode cX5_nimbersBehind 8 = .ok (.if_icmp .gt 53, 3) := by decide +kernel
theorem dX5_nimbersBehind_11 : decode cX5_nimbersBehind 11 = .ok (.iload_n 2, 1) := by decide +kernel
theorem dX5_nimbersBehind_12 : decode cX5_nimbersBehind 12 = .ok (.iload 4, 2) := by decide +kernel
theorem dX5_nimbersBehind_14 : decode cX5_nimbersBehind 14 = .ok (.isub, 1) := by decide +kernel
theorem dX5_nimbersBehind_15 : decode cX5_nimbersBehind 15 = .ok (.istore 5, 2) := by decide +kernel
theorem dX5_nimbersBehind_17 : decode cX5_nimbersBehind 17 = .ok (.iload 5, 2) := by decide +kernel
theorem dX5_nimbersBehind_19 : decode cX5_nimbersBehind 19 = .ok (.ifCond .lt 36, 3) := by decide +kernel
theorem dX5_nimbersBehind_22 : decode cX5_nimbersBehind 22 = .ok (.iload 5, 2) := by decide +kernel
theorem dX5_nimbersBehind_24 : decode cX5_nimbersBehind 24 = .ok (.aload_n 0, 1) := by decide +kernel
theorem dX5_nimbersBehind_25 : decode cX5_nimbersBehind 25 = .ok (.getfield 9, 3) := by decide +kernel
theorem dX5_nimbersBehind_28 : decode cX5_nimbersBehind 28 = .ok (.arraylength, 1) := by decide +kernel
theorem dX5_nimbersBehind_29 : decode cX5_nimbersBehind 29 = .ok (.if_icmp .ge 26, 3) := by decide +kernel
theorem dX5_nimbersBehind_32 : decode cX5_nimbersBehind 32 = .ok (.iload_n 1, 1) := by decide +kernel
theorem dX5_nimbersBehind_33 : decode cX5_nimbersBehind 33 = .ok (.iload 4, 2) := by decide +kernel
theorem dX5_nimbersBehind_35 : decode cX5_nimbersBehind 35 = .ok (.iconst 1, 1) := by decide +kernel
theorem dX5_nimbersBehind_36 : decode cX5_nimbersBehind 36 = .ok (.isub, 1) := by decide +kernel
theorem dX5_nimbersBehind_37 : decode cX5_nimbersBehind 37 = .ok (.invokestatic 34, 3) := by decide +kernel
theorem dX5_nimbersBehind_40 : decode cX5_nimbersBehind 40 = .ok (.ifCond .eq 15, 3) := by decide +kernel
theorem dX5_nimbersBehind_43 : decode cX5_nimbersBehind 43 = .ok (.iload_n 3, 1) := by decide +kernel
theorem dX5_nimbersBehind_44 : decode cX5_nimbersBehind 44 = .ok (.iconst 1, 1) := by decide +kernel
theorem dX5_nimbersBehind_45 : decode cX5_nimbersBehind 45 = .ok (.aload_n 0, 1) := by decide +kernel
theorem dX5_nimbersBehind_46 : decode cX5_nimbersBehind 46 = .ok (.getfield 9, 3) := by decide +kernel
theorem dX5_nimbersBehind_49 : decode cX5_nimbersBehind 49 = .ok (.iload 5, 2) := by decide +kernel
theorem dX5_nimbersBehind_51 : decode cX5_nimbersBehind 51 = .ok (.iaload, 1) := by decide +kernel
theorem dX5_nimbersBehind_52 : decode cX5_nimbersBehind 52 = .ok (.ishl, 1) := by decide +kernel
theorem dX5_nimbersBehind_53 : decode cX5_nimbersBehind 53 = .ok (.ior, 1) := by decide +kernel
theorem dX5_nimbersBehind_54 : decode cX5_nimbersBehind 54 = .ok (.istore_n 3, 1) := by decide +kernel
theorem dX5_nimbersBehind_55 : decode cX5_nimbersBehind 55 = .ok (.iinc 4 1, 3) := by decide +kernel
theorem dX5_nimbersBehind_58 : decode cX5_nimbersBehind 58 = .ok (.goto (-53), 3) := by decide +kernel
theorem dX5_nimbersBehind_61 : decode cX5_nimbersBehind 61 = .ok (.iload_n 3, 1) := by decide +kernel
theorem dX5_nimbersBehind_62 : decode cX5_nimbersBehind 62 = .ok (.ireturn, 1) := by decide +kernel
set_option maxRecDepth 20000 in
theorem ggX5_leastOutside_X8_isIn : GoodIn wsX5_leastOutside wsX8_isIn := goodIn_r _ [3] (by decide +kernel) (by decide +kernel)
set_option maxRecDepth 20000 in
theorem gX5_leastOutside_X8_isIn_n34 : GoodIn wsX5_leastOutside (wsX8_isIn) := ggX5_leastOutside_X8_isIn
theorem dX5_leastOutside_0 : decode cX5_leastOutside 0 = .ok (.iconst 0, 1) := by decide +kernel
theorem dX5_leastOutside_1 : decode cX5_leastOutside 1 = .ok (.istore_n 1, 1) := by decide +kernel
theorem dX5_leastOutside_2 : decode cX5_leastOutside 2 = .ok (.iload_n 1, 1) := by decide +kernel
theorem dX5_leastOutside_3 : decode cX5_leastOutside 3 = .ok (.iconst 5, 1) := by decide +kernel
theorem dX5_leastOutside_4 : decode cX5_leastOutside 4 = .ok (.if_icmp .ge 17, 3) := by decide +kernel
theorem dX5_leastOutside_7 : decode cX5_leastOutside 7 = .ok (.iload_n 0, 1) := by decide +kernel
theorem dX5_leastOutside_8 : decode cX5_leastOutside 8 = .ok (.iload_n 1, 1) := by decide +kernel
theorem dX5_leastOutside_9 : decode cX5_leastOutside 9 = .ok (.invokestatic 34, 3) := by decide +kernel
theorem dX5_leastOutside_12 : decode cX5_leastOutside 12 = .ok (.ifCond .eq 9, 3) := by decide +kernel
theorem dX5_leastOutside_15 : decode cX5_leastOutside 15 = .ok (.iinc 1 1, 3) := by decide +kernel
theorem dX5_leastOutside_18 : decode cX5_leastOutside 18 = .ok (.goto (-16), 3) := by decide +kernel
theorem dX5_leastOutside_21 : decode cX5_leastOutside 21 = .ok (.iload_n 1, 1) := by decide +kernel
theorem dX5_leastOutside_22 : decode cX5_leastOutside 22 = .ok (.ireturn, 1) := by decide +kernel
set_option maxRecDepth 20000 in
theorem ggX6_init_X0_init : GoodIn wsX6_init wsX0_init := goodIn_r _ [9, 10, 2, 3, 11, 12, 13, 14, 15, 16, 17, 18, 19, 20, 21, 22, 23, 24, 25, 26, 27, 28, 29, 30, 31, 32, 33, 34, 35, 36, 37, 40, 41, 42, 43, 44, 45] (by decide +kernel) (by decide +kernel)
set_option maxRecDepth 20000 in
theorem gX6_init_X0_init_n9 : GoodIn wsX6_init (wsX0_init) := ggX6_init_X0_init
theorem dX6_init_0 : decode cX6_init 0 = .ok (.aload_n 0, 1) := by decide +kernel
theorem dX6_init_1 : decode cX6_init 1 = .ok (.invokespecial 1, 3) := by decide +kernel
theorem dX6_init_4 : decode cX6_init 4 = .ok (.aload_n 0, 1) := by decide +kernel
theorem dX6_init_5 : decode cX6_init 5 = .ok (.new 7, 3) := by decide +kernel
theorem dX6_init_8 : decode cX6_init 8 = .ok (.dup, 1) := by decide +kernel
theorem dX6_init_9 : decode cX6_init 9 = .ok (.invokespecial 9, 3) := by decide +kernel
theorem dX6_init_12 : decode cX6_init 12 = .ok (.putfield 10, 3) := by decide +kernel
theorem dX6_init_15 : decode cX6_init 15 = .ok (.return_, 1) := by decide +kernel
theorem dX7_init_0 : decode cX7_init 0 = .ok (.aload_n 0, 1) := by decide +kernel
theorem dX7_init_1 : decode cX7_init 1 = .ok (.invokespecial 5, 3) := by decide +kernel
theorem dX7_init_4 : decode cX7_init 4 = .ok (.aload_n 0, 1) := by decide +kernel
theorem dX7_init_5 : decode cX7_init 5 = .ok (.sipush 23328, 3) := by decide +kernel
theorem dX7_init_8 : decode cX7_init 8 = .ok (.newarray .int, 2) := by decide +kernel
theorem dX7_init_10 : decode cX7_init 10 = .ok (.putfield 11, 3) := by decide +kernel
theorem dX7_init_13 : decode cX7_init 13 = .ok (.aload_n 0, 1) := by decide +kernel
theorem dX7_init_14 : decode cX7_init 14 = .ok (.sipush 23328, 3) := by decide +kernel
theorem dX7_init_17 : decode cX7_init 17 = .ok (.newarray .int, 2) := by decide +kernel
theorem dX7_init_19 : decode cX7_init 19 = .ok (.putfield 15, 3) := by decide +kernel
theorem dX7_init_22 : decode cX7_init 22 = .ok (.aload_n 0, 1) := by decide +kernel
theorem dX7_init_23 : decode cX7_init 23 = .ok (.bipush 21, 2) := by decide +kernel
theorem dX7_init_25 : decode cX7_init 25 = .ok (.newarray .int, 2) := by decide +kernel
theorem dX7_init_27 : decode cX7_init 27 = .ok (.putfield 18, 3) := by decide +kernel
theorem dX7_init_30 : decode cX7_init 30 = .ok (.aload_n 0, 1) := by decide +kernel
theorem dX7_init_31 : decode cX7_init 31 = .ok (.bipush 21, 2) := by decide +kernel
theorem dX7_init_33 : decode cX7_init 33 = .ok (.newarray .int, 2) := by decide +kernel
theorem dX7_init_35 : decode cX7_init 35 = .ok (.putfield 21, 3) := by decide +kernel
theorem dX7_init_38 : decode cX7_init 38 = .ok (.aload_n 0, 1) := by decide +kernel
theorem dX7_init_39 : decode cX7_init 39 = .ok (.ldc 24, 2) := by decide +kernel
theorem dX7_init_41 : decode cX7_init 41 = .ok (.putfield 25, 3) := by decide +kernel
theorem dX7_init_44 : decode cX7_init 44 = .ok (.bipush 18, 2) := by decide +kernel
theorem dX7_init_46 : decode cX7_init 46 = .ok (.istore_n 1, 1) := by decide +kernel
theorem dX7_init_47 : decode cX7_init 47 = .ok (.iconst 0, 1) := by decide +kernel
theorem dX7_init_48 : decode cX7_init 48 = .ok (.istore_n 2, 1) := by decide +kernel
theorem dX7_init_49 : decode cX7_init 49 = .ok (.iload_n 2, 1) := by decide +kernel
theorem dX7_init_50 : decode cX7_init 50 = .ok (.aload_n 0, 1) := by decide +kernel
theorem dX7_init_51 : decode cX7_init 51 = .ok (.getfield 18, 3) := by decide +kernel
theorem dX7_init_54 : decode cX7_init 54 = .ok (.arraylength, 1) := by decide +kernel
theorem dX7_init_55 : decode cX7_init 55 = .ok (.if_icmp .ge 45, 3) := by decide +kernel
theorem dX7_init_58 : decode cX7_init 58 = .ok (.iload_n 2, 1) := by decide +kernel
theorem dX7_init_59 : decode cX7_init 59 = .ok (.iconst 5, 1) := by decide +kernel
theorem dX7_init_60 : decode cX7_init 60 = .ok (.irem, 1) := by decide +kernel
theorem dX7_init_61 : decode cX7_init 61 = .ok (.iconst 1, 1) := by decide +kernel
theorem dX7_init_62 : decode cX7_init 62 = .ok (.iadd, 1) := by decide +kernel
theorem dX7_init_63 : decode cX7_init 63 = .ok (.istore_n 3, 1) := by decide +kernel
theorem dX7_init_64 : decode cX7_init 64 = .ok (.aload_n 0, 1) := by decide +kernel
theorem dX7_init_65 : decode cX7_init 65 = .ok (.getfield 18, 3) := by decide +kernel
theorem dX7_init_68 : decode cX7_init 68 = .ok (.iload_n 2, 1) := by decide +kernel
theorem dX7_init_69 : decode cX7_init 69 = .ok (.iload_n 2, 1) := by decide +kernel
theorem dX7_init_70 : decode cX7_init 70 = .ok (.bipush 20, 2) := by decide +kernel
theorem dX7_init_72 : decode cX7_init 72 = .ok (.if_icmp .ne 8, 3) := by decide +kernel
theorem dX7_init_75 : decode cX7_init 75 = .ok (.bipush 10, 2) := by decide +kernel
theorem dX7_init_77 : decode cX7_init 77 = .ok (.goto 6, 3) := by decide +kernel
theorem dX7_init_80 : decode cX7_init 80 = .ok (.iload_n 1, 1) := by decide +kernel
theorem dX7_init_81 : decode cX7_init 81 = .ok (.iload_n 3, 1) := by decide +kernel
theorem dX7_init_82 : decode cX7_init 82 = .ok (.imul, 1) := by decide +kernel
theorem dX7_init_83 : decode cX7_init 83 = .ok (.iastore, 1) := by decide +kernel
theorem dX7_init_84 : decode cX7_init 84 = .ok (.iload_n 3, 1) := by decide +kernel
theorem dX7_init_85 : decode cX7_init 85 = .ok (.iconst 5, 1) := by decide +kernel
theorem dX7_init_86 : decode cX7_init 86 = .ok (.if_icmp .ne 8, 3) := by decide +kernel
theorem dX7_init_89 : decode cX7_init 89 = .ok (.iload_n 1, 1) := by decide +kernel
theorem dX7_init_90 : decode cX7_init 90 = .ok (.bipush 6, 2) := by decide +kernel
theorem dX7_init_92 : decode cX7_init 92 = .ok (.imul, 1) := by decide +kernel
theorem dX7_init_93 : decode cX7_init 93 = .ok (.istore_n 1, 1) := by decide +kernel
theorem dX7_init_94 : decode cX7_init 94 = .ok (.iinc 2 1, 3) := by decide +kernel
theorem dX7_init_97 : decode cX7_init 97 = .ok (.goto (-48), 3) := by decide +kernel
theorem dX7_init_100 : decode cX7_init 100 = .ok (.return_, 1) := by decide +kernel
set_option maxRecDepth 20000 in
theorem ggX7_isWon_X7_spotOf : GoodIn wsX7_isWon wsX7_spotOf := goodIn_r _ [5, 6, 7, 8, 4, 9, 10, 11, 12, 13, 14, 15, 16, 17, 18, 19, 20, 21, 22, 23, 24, 25, 26, 27, 28, 29, 30, 31, 32, 33, 34, 63, 64, 65, 66, 67, 68, 69, 70, 71, 72, 73, 74, 75, 76, 77, 78, 79, 80, 81, 82, 83, 84, 85, 86] (by decide +kernel) (by decide +kernel)
set_option maxRecDepth 20000 in
theorem gX7_isWon_X7_spotOf : GoodIn wsX7_isWon (wsV RX7 29 RX7 yX7_spotOf wsX7_spotOf) := goodIn_app (goodIn_of _ (by decide +kernel)) ggX7_isWon_X7_spotOf
set_option maxRecDepth 20000 in
theorem ggX7_isWon_X7_wonAt : GoodIn wsX7_isWon wsX7_wonAt := goodIn_r _ [38, 13, 12, 39, 40, 4, 41, 42, 43, 44, 45, 46, 14, 47, 27, 48, 49, 50, 51, 52, 24, 53, 54, 26, 28, 55, 56, 57, 58, 59, 60, 61, 62, 35, 36, 37, 79, 80, 81, 82, 83, 84, 85, 86] (by decide +kernel) (by decide +kernel)
set_option maxRecDepth 20000 in
theorem gX7_isWon_X7_wonAt : GoodIn wsX7_isWon (wsV RX7 33 RX7 yX7_wonAt wsX7_wonAt) := goodIn_app (goodIn_of _ (by decide +kernel)) ggX7_isWon_X7_wonAt
theorem dX7_isWon_0 : decode cX7_isWon 0 = .ok (.aload_n 0, 1) := by decide +kernel
theorem dX7_isWon_1 : decode cX7_isWon 1 = .ok (.aload_n 0, 1) := by decide +kernel
theorem dX7_isWon_2 : decode cX7_isWon 2 = .ok (.aload_n 1, 1) := by decide +kernel
theorem dX7_isWon_3 : decode cX7_isWon 3 = .ok (.invokevirtual 29, 3) := by decide +kernel
theorem dX7_isWon_6 : decode cX7_isWon 6 = .ok (.iconst 0, 1) := by decide +kernel
theorem dX7_isWon_7 : decode cX7_isWon 7 = .ok (.invokevirtual 33, 3) := by decide +kernel
theorem dX7_isWon_10 : decode cX7_isWon 10 = .ok (.ireturn, 1) := by decide +kernel
