set_option maxRecDepth 20000 in
theorem gX7_wonAt_X7_turned : GoodIn wsX7_wonAt (va_wsS RX7 44 yX7_turned wsX7_turned) := goodIn_app (goodIn_of _ (by decide +kernel)) ggX7_wonAt_X7_turned
set_option maxRecDepth 20000 in
theorem ggX7_wonAt_X8_isIn : GoodIn wsX7_wonAt wsX8_isIn := goodIn_r _ [22] (by decide +kernel) (by decide +kernel)
set_option maxRecDepth 20000 in
theorem gX7_wonAt_X8_isIn_n47 : GoodIn wsX7_wonAt (wsX8_isIn) := ggX7_wonAt_X8_isIn
set_option maxRecDepth 20000 in
theorem ggX7_wonAt_X7_winsBy : GoodIn wsX7_wonAt wsX7_winsBy := goodIn_r _ [31, 32, 33, 34, 35, 5, 0, 1, 2, 3, 4, 6, 7, 8, 9, 10, 11, 12, 13, 14, 15, 16, 17, 18, 19, 20, 21, 22, 23, 24, 25, 26, 27, 28, 29, 30, 36, 37, 38, 39, 40, 41, 42, 43] (by decide +kernel) (by decide +kernel)
set_option maxRecDepth 20000 in
theorem gX7_wonAt_X7_winsBy : GoodIn wsX7_wonAt (wsV RX7 50 RX7 yX7_winsBy wsX7_winsBy) := goodIn_app (goodIn_of _ (by decide +kernel)) ggX7_wonAt_X7_winsBy
theorem dX7_wonAt_0 : decode cX7_wonAt 0 = .ok (.iload_n 1, 1) := by decide +kernel
theorem dX7_wonAt_1 : decode cX7_wonAt 1 = .ok (.iload_n 2, 1) := by decide +kernel
theorem dX7_wonAt_2 : decode cX7_wonAt 2 = .ok (.invokestatic 127, 3) := by decide +kernel
theorem dX7_wonAt_5 : decode cX7_wonAt 5 = .ok (.ifCond .ne 5, 3) := by decide +kernel
theorem dX7_wonAt_8 : decode cX7_wonAt 8 = .ok (.iconst 0, 1) := by decide +kernel
theorem dX7_wonAt_9 : decode cX7_wonAt 9 = .ok (.ireturn, 1) := by decide +kernel
theorem dX7_wonAt_10 : decode cX7_wonAt 10 = .ok (.aload_n 0, 1) := by decide +kernel
theorem dX7_wonAt_11 : decode cX7_wonAt 11 = .ok (.getfield 15, 3) := by decide +kernel
theorem dX7_wonAt_14 : decode cX7_wonAt 14 = .ok (.iload_n 1, 1) := by decide +kernel
theorem dX7_wonAt_15 : decode cX7_wonAt 15 = .ok (.iaload, 1) := by decide +kernel
theorem dX7_wonAt_16 : decode cX7_wonAt 16 = .ok (.ldc 24, 2) := by decide +kernel
theorem dX7_wonAt_18 : decode cX7_wonAt 18 = .ok (.if_icmp .ne 85, 3) := by decide +kernel
theorem dX7_wonAt_21 : decode cX7_wonAt 21 = .ok (.aload_n 0, 1) := by decide +kernel
theorem dX7_wonAt_22 : decode cX7_wonAt 22 = .ok (.iload_n 1, 1) := by decide +kernel
theorem dX7_wonAt_23 : decode cX7_wonAt 23 = .ok (.invokevirtual 37, 3) := by decide +kernel
theorem dX7_wonAt_26 : decode cX7_wonAt 26 = .ok (.istore_n 3, 1) := by decide +kernel
theorem dX7_wonAt_27 : decode cX7_wonAt 27 = .ok (.aload_n 0, 1) := by decide +kernel
theorem dX7_wonAt_28 : decode cX7_wonAt 28 = .ok (.iload_n 1, 1) := by decide +kernel
theorem dX7_wonAt_29 : decode cX7_wonAt 29 = .ok (.invokevirtual 41, 3) := by decide +kernel
theorem dX7_wonAt_32 : decode cX7_wonAt 32 = .ok (.istore 4, 2) := by decide +kernel
theorem dX7_wonAt_34 : decode cX7_wonAt 34 = .ok (.iload_n 1, 1) := by decide +kernel
theorem dX7_wonAt_35 : decode cX7_wonAt 35 = .ok (.invokestatic 44, 3) := by decide +kernel
theorem dX7_wonAt_38 : decode cX7_wonAt 38 = .ok (.istore 5, 2) := by decide +kernel
theorem dX7_wonAt_40 : decode cX7_wonAt 40 = .ok (.iconst 0, 1) := by decide +kernel
theorem dX7_wonAt_41 : decode cX7_wonAt 41 = .ok (.istore 6, 2) := by decide +kernel
theorem dX7_wonAt_43 : decode cX7_wonAt 43 = .ok (.iconst 0, 1) := by decide +kernel
theorem dX7_wonAt_44 : decode cX7_wonAt 44 = .ok (.istore 7, 2) := by decide +kernel
theorem dX7_wonAt_46 : decode cX7_wonAt 46 = .ok (.iload 7, 2) := by decide +kernel
theorem dX7_wonAt_48 : decode cX7_wonAt 48 = .ok (.bipush 20, 2) := by decide +kernel
theorem dX7_wonAt_50 : decode cX7_wonAt 50 = .ok (.if_icmp .gt 45, 3) := by decide +kernel
theorem dX7_wonAt_53 : decode cX7_wonAt 53 = .ok (.iload 6, 2) := by decide +kernel
theorem dX7_wonAt_55 : decode cX7_wonAt 55 = .ok (.ifCond .ne 40, 3) := by decide +kernel
theorem dX7_wonAt_58 : decode cX7_wonAt 58 = .ok (.iload_n 3, 1) := by decide +kernel
theorem dX7_wonAt_59 : decode cX7_wonAt 59 = .ok (.iload 7, 2) := by decide +kernel
theorem dX7_wonAt_61 : decode cX7_wonAt 61 = .ok (.invokestatic 47, 3) := by decide +kernel
theorem dX7_wonAt_64 : decode cX7_wonAt 64 = .ok (.ifCond .eq 25, 3) := by decide +kernel
theorem dX7_wonAt_67 : decode cX7_wonAt 67 = .ok (.aload_n 0, 1) := by decide +kernel
theorem dX7_wonAt_68 : decode cX7_wonAt 68 = .ok (.iload 7, 2) := by decide +kernel
theorem dX7_wonAt_70 : decode cX7_wonAt 70 = .ok (.iload 5, 2) := by decide +kernel
theorem dX7_wonAt_72 : decode cX7_wonAt 72 = .ok (.iload 4, 2) := by decide +kernel
theorem dX7_wonAt_74 : decode cX7_wonAt 74 = .ok (.iload 7, 2) := by decide +kernel
theorem dX7_wonAt_76 : decode cX7_wonAt 76 = .ok (.invokestatic 47, 3) := by decide +kernel
theorem dX7_wonAt_79 : decode cX7_wonAt 79 = .ok (.iload_n 2, 1) := by decide +kernel
theorem dX7_wonAt_80 : decode cX7_wonAt 80 = .ok (.invokevirtual 50, 3) := by decide +kernel
theorem dX7_wonAt_83 : decode cX7_wonAt 83 = .ok (.ifCond .eq 6, 3) := by decide +kernel
theorem dX7_wonAt_86 : decode cX7_wonAt 86 = .ok (.iconst 1, 1) := by decide +kernel
theorem dX7_wonAt_87 : decode cX7_wonAt 87 = .ok (.istore 6, 2) := by decide +kernel
theorem dX7_wonAt_89 : decode cX7_wonAt 89 = .ok (.iinc 7 1, 3) := by decide +kernel
theorem dX7_wonAt_92 : decode cX7_wonAt 92 = .ok (.goto (-46), 3) := by decide +kernel
theorem dX7_wonAt_95 : decode cX7_wonAt 95 = .ok (.aload_n 0, 1) := by decide +kernel
theorem dX7_wonAt_96 : decode cX7_wonAt 96 = .ok (.getfield 15, 3) := by decide +kernel
theorem dX7_wonAt_99 : decode cX7_wonAt 99 = .ok (.iload_n 1, 1) := by decide +kernel
theorem dX7_wonAt_100 : decode cX7_wonAt 100 = .ok (.iload 6, 2) := by decide +kernel
theorem dX7_wonAt_102 : decode cX7_wonAt 102 = .ok (.iastore, 1) := by decide +kernel
theorem dX7_wonAt_103 : decode cX7_wonAt 103 = .ok (.aload_n 0, 1) := by decide +kernel
theorem dX7_wonAt_104 : decode cX7_wonAt 104 = .ok (.getfield 15, 3) := by decide +kernel
theorem dX7_wonAt_107 : decode cX7_wonAt 107 = .ok (.iload_n 1, 1) := by decide +kernel
theorem dX7_wonAt_108 : decode cX7_wonAt 108 = .ok (.iaload, 1) := by decide +kernel
theorem dX7_wonAt_109 : decode cX7_wonAt 109 = .ok (.iconst 1, 1) := by decide +kernel
theorem dX7_wonAt_110 : decode cX7_wonAt 110 = .ok (.if_icmp .ne 7, 3) := by decide +kernel
theorem dX7_wonAt_113 : decode cX7_wonAt 113 = .ok (.iconst 1, 1) := by decide +kernel
theorem dX7_wonAt_114 : decode cX7_wonAt 114 = .ok (.goto 4, 3) := by decide +kernel
theorem dX7_wonAt_117 : decode cX7_wonAt 117 = .ok (.iconst 0, 1) := by decide +kernel
theorem dX7_wonAt_118 : decode cX7_wonAt 118 = .ok (.ireturn, 1) := by decide +kernel
set_option maxRecDepth 20000 in
theorem ggX7_valueBy_X7_valueAt : GoodIn wsX7_valueBy wsX7_valueAt := goodIn_r _ [9, 10, 3, 4, 11, 12, 13, 14, 15, 16, 8, 17, 18, 19, 20, 21, 22, 23, 24, 25, 26, 27, 28, 29, 30, 31, 32, 33, 34, 35, 36, 37, 38, 39, 40, 41, 0, 1, 2, 5, 6, 7, 42, 43, 44, 45, 46, 47, 48, 49] (by decide +kernel) (by decide +kernel)
set_option maxRecDepth 20000 in
theorem gX7_valueBy_X7_valueAt : GoodIn wsX7_valueBy (wsV RX7 54 RX7 yX7_valueAt wsX7_valueAt) := goodIn_app (goodIn_of _ (by decide +kernel)) ggX7_valueBy_X7_valueAt
theorem dX7_valueBy_0 : decode cX7_valueBy 0 = .ok (.iload_n 1, 1) := by decide +kernel
theorem dX7_valueBy_1 : decode cX7_valueBy 1 = .ok (.ifCond .lt 21, 3) := by decide +kernel
theorem dX7_valueBy_4 : decode cX7_valueBy 4 = .ok (.iload_n 1, 1) := by decide +kernel
theorem dX7_valueBy_5 : decode cX7_valueBy 5 = .ok (.aload_n 0, 1) := by decide +kernel
theorem dX7_valueBy_6 : decode cX7_valueBy 6 = .ok (.getfield 18, 3) := by decide +kernel
theorem dX7_valueBy_9 : decode cX7_valueBy 9 = .ok (.arraylength, 1) := by decide +kernel
theorem dX7_valueBy_10 : decode cX7_valueBy 10 = .ok (.if_icmp .ge 12, 3) := by decide +kernel
theorem dX7_valueBy_13 : decode cX7_valueBy 13 = .ok (.iload_n 1, 1) := by decide +kernel
theorem dX7_valueBy_14 : decode cX7_valueBy 14 = .ok (.aload_n 0, 1) := by decide +kernel
theorem dX7_valueBy_15 : decode cX7_valueBy 15 = .ok (.getfield 21, 3) := by decide +kernel
theorem dX7_valueBy_18 : decode cX7_valueBy 18 = .ok (.arraylength, 1) := by decide +kernel
theorem dX7_valueBy_19 : decode cX7_valueBy 19 = .ok (.if_icmp .lt 6, 3) := by decide +kernel
theorem dX7_valueBy_22 : decode cX7_valueBy 22 = .ok (.ldc 24, 2) := by decide +kernel
theorem dX7_valueBy_24 : decode cX7_valueBy 24 = .ok (.ireturn, 1) := by decide +kernel
theorem dX7_valueBy_25 : decode cX7_valueBy 25 = .ok (.iload_n 3, 1) := by decide +kernel
theorem dX7_valueBy_26 : decode cX7_valueBy 26 = .ok (.ifCond .eq 15, 3) := by decide +kernel
theorem dX7_valueBy_29 : decode cX7_valueBy 29 = .ok (.aload_n 0, 1) := by decide +kernel
theorem dX7_valueBy_30 : decode cX7_valueBy 30 = .ok (.getfield 21, 3) := by decide +kernel
theorem dX7_valueBy_33 : decode cX7_valueBy 33 = .ok (.iload_n 1, 1) := by decide +kernel
theorem dX7_valueBy_34 : decode cX7_valueBy 34 = .ok (.iaload, 1) := by decide +kernel
theorem dX7_valueBy_35 : decode cX7_valueBy 35 = .ok (.aload_n 0, 1) := by decide +kernel
theorem dX7_valueBy_36 : decode cX7_valueBy 36 = .ok (.getfield 112, 3) := by decide +kernel
theorem dX7_valueBy_39 : decode cX7_valueBy 39 = .ok (.isub, 1) := by decide +kernel
theorem dX7_valueBy_40 : decode cX7_valueBy 40 = .ok (.ireturn, 1) := by decide +kernel
theorem dX7_valueBy_41 : decode cX7_valueBy 41 = .ok (.aload_n 0, 1) := by decide +kernel
theorem dX7_valueBy_42 : decode cX7_valueBy 42 = .ok (.getfield 21, 3) := by decide +kernel
theorem dX7_valueBy_45 : decode cX7_valueBy 45 = .ok (.iload_n 1, 1) := by decide +kernel
theorem dX7_valueBy_46 : decode cX7_valueBy 46 = .ok (.iaload, 1) := by decide +kernel
theorem dX7_valueBy_47 : decode cX7_valueBy 47 = .ok (.aload_n 0, 1) := by decide +kernel
theorem dX7_valueBy_48 : decode cX7_valueBy 48 = .ok (.iload_n 2, 1) := by decide +kernel
theorem dX7_valueBy_49 : decode cX7_valueBy 49 = .ok (.aload_n 0, 1) := by decide +kernel
theorem dX7_valueBy_50 : decode cX7_valueBy 50 = .ok (.getfield 18, 3) := by decide +kernel
theorem dX7_valueBy_53 : decode cX7_valueBy 53 = .ok (.iload_n 1, 1) := by decide +kernel
theorem dX7_valueBy_54 : decode cX7_valueBy 54 = .ok (.iaload, 1) := by decide +kernel
theorem dX7_valueBy_55 : decode cX7_valueBy 55 = .ok (.isub, 1) := by decide +kernel
theorem dX7_valueBy_56 : decode cX7_valueBy 56 = .ok (.iload 4, 2) := by decide +kernel
theorem dX7_valueBy_58 : decode cX7_valueBy 58 = .ok (.iconst 1, 1) := by decide +kernel
theorem dX7_valueBy_59 : decode cX7_valueBy 59 = .ok (.iadd, 1) := by decide +kernel
theorem dX7_valueBy_60 : decode cX7_valueBy 60 = .ok (.invokevirtual 54, 3) := by decide +kernel
theorem dX7_valueBy_63 : decode cX7_valueBy 63 = .ok (.isub, 1) := by decide +kernel
theorem dX7_valueBy_64 : decode cX7_valueBy 64 = .ok (.ireturn, 1) := by decide +kernel
set_option maxRecDepth 20000 in
theorem ggX7_valueAt_X7_isSpot : GoodIn wsX7_valueAt wsX7_isSpot := goodIn_r _ [11] (by decide +kernel) (by decide +kernel)
set_option maxRecDepth 20000 in
theorem gX7_valueAt_X7_isSpot : GoodIn wsX7_valueAt (va_wsS RX7 127 yX7_isSpot wsX7_isSpot) := goodIn_app (goodIn_of _ (by decide +kernel)) ggX7_valueAt_X7_isSpot
set_option maxRecDepth 20000 in
theorem ggX7_valueAt_X7_movesAt : GoodIn wsX7_valueAt wsX7_movesAt := goodIn_r _ [15, 16, 17, 18, 19, 20, 42, 43, 44, 45, 46, 47, 48, 49] (by decide +kernel) (by decide +kernel)
set_option maxRecDepth 20000 in
theorem gX7_valueAt_X7_movesAt : GoodIn wsX7_valueAt (wsV RX7 37 RX7 yX7_movesAt wsX7_movesAt) := goodIn_app (goodIn_of _ (by decide +kernel)) ggX7_valueAt_X7_movesAt
set_option maxRecDepth 20000 in
theorem ggX7_valueAt_X7_poisonAt : GoodIn wsX7_valueAt wsX7_poisonAt := goodIn_r _ [24, 25, 26, 19, 27, 28, 29, 42, 43, 44, 45, 46, 47, 48, 49] (by decide +kernel) (by decide +kernel)
set_option maxRecDepth 20000 in
theorem gX7_valueAt_X7_poisonAt : GoodIn wsX7_valueAt (wsV RX7 41 RX7 yX7_poisonAt wsX7_poisonAt) := goodIn_app (goodIn_of _ (by decide +kernel)) ggX7_valueAt_X7_poisonAt
set_option maxRecDepth 20000 in
theorem ggX7_valueAt_X7_turned : GoodIn wsX7_valueAt wsX7_turned := goodIn_r _ [32] (by decide +kernel) (by decide +kernel)
set_option maxRecDepth 20000 in
theorem gX7_valueAt_X7_turned : GoodIn wsX7_valueAt (va_wsS RX7 44 yX7_turned wsX7_turned) := goodIn_app (goodIn_of _ (by decide +kernel)) ggX7_valueAt_X7_turned
set_option maxRecDepth 20000 in
theorem ggX7_valueAt_X8_isIn : GoodIn wsX7_valueAt wsX8_isIn := goodIn_r _ [27] (by decide +kernel) (by decide +kernel)
set_option maxRecDepth 20000 in
theorem gX7_valueAt_X8_isIn_n47 : GoodIn wsX7_valueAt (wsX8_isIn) := ggX7_valueAt_X8_isIn
set_option maxRecDepth 20000 in
theorem ggX7_valueAt_X7_valueBy : GoodIn wsX7_valueAt wsX7_valueBy := goodIn_r _ [36, 37, 38, 2, 3, 39, 40, 41, 10, 0, 1, 4, 5, 6, 7, 8, 9, 11, 12, 13, 14, 15, 16, 17, 18, 19, 20, 21, 22, 23, 24, 25, 26, 27, 28, 29, 30, 31, 32, 33, 34, 35, 42, 43, 44, 45, 46, 47, 48, 49] (by decide +kernel) (by decide +kernel)
set_option maxRecDepth 20000 in
theorem gX7_valueAt_X7_valueBy : GoodIn wsX7_valueAt (wsV RX7 58 RX7 yX7_valueBy wsX7_valueBy) := goodIn_app (goodIn_of _ (by decide +kernel)) ggX7_valueAt_X7_valueBy
theorem dX7_valueAt_0 : decode cX7_valueAt 0 = .ok (.iload_n 1, 1) := by decide +kernel
theorem dX7_valueAt_1 : decode cX7_valueAt 1 = .ok (.iload_n 2, 1) := by decide +kernel
theorem dX7_valueAt_2 : decode cX7_valueAt 2 = .ok (.invokestatic 127, 3) := by decide +kernel
theorem dX7_valueAt_5 : decode cX7_valueAt 5 = .ok (.ifCond .ne 5, 3) := by decide +kernel
theorem dX7_valueAt_8 : decode cX7_valueAt 8 = .ok (.iconst 0, 1) := by decide +kernel
theorem dX7_valueAt_9 : decode cX7_valueAt 9 = .ok (.ireturn, 1) := by decide +kernel
theorem dX7_valueAt_10 : decode cX7_valueAt 10 = .ok (.aload_n 0, 1) := by decide +kernel
theorem dX7_valueAt_11 : decode cX7_valueAt 11 = .ok (.getfield 11, 3) := by decide +kernel
theorem dX7_valueAt_14 : decode cX7_valueAt 14 = .ok (.iload_n 1, 1) := by decide +kernel
theorem dX7_valueAt_15 : decode cX7_valueAt 15 = .ok (.iaload, 1) := by decide +kernel
theorem dX7_valueAt_16 : decode cX7_valueAt 16 = .ok (.ldc 24, 2) := by decide +kernel
theorem dX7_valueAt_18 : decode cX7_valueAt 18 = .ok (.if_icmp .ne 94, 3) := by decide +kernel
theorem dX7_valueAt_21 : decode cX7_valueAt 21 = .ok (.aload_n 0, 1) := by decide +kernel
theorem dX7_valueAt_22 : decode cX7_valueAt 22 = .ok (.iload_n 1, 1) := by decide +kernel
theorem dX7_valueAt_23 : decode cX7_valueAt 23 = .ok (.invokevirtual 37, 3) := by decide +kernel
theorem dX7_valueAt_26 : decode cX7_valueAt 26 = .ok (.istore_n 3, 1) := by decide +kernel
theorem dX7_valueAt_27 : decode cX7_valueAt 27 = .ok (.aload_n 0, 1) := by decide +kernel
theorem dX7_valueAt_28 : decode cX7_valueAt 28 = .ok (.iload_n 1, 1) := by decide +kernel
theorem dX7_valueAt_29 : decode cX7_valueAt 29 = .ok (.invokevirtual 41, 3) := by decide +kernel
theorem dX7_valueAt_32 : decode cX7_valueAt 32 = .ok (.istore 4, 2) := by decide +kernel
theorem dX7_valueAt_34 : decode cX7_valueAt 34 = .ok (.iload_n 1, 1) := by decide +kernel
theorem dX7_valueAt_35 : decode cX7_valueAt 35 = .ok (.invokestatic 44, 3) := by decide +kernel
theorem dX7_valueAt_38 : decode cX7_valueAt 38 = .ok (.istore 5, 2) := by decide +kernel
theorem dX7_valueAt_40 : decode cX7_valueAt 40 = .ok (.iload_n 3, 1) := by decide +kernel
theorem dX7_valueAt_41 : decode cX7_valueAt 41 = .ok (.ifCond .ne 11, 3) := by decide +kernel
theorem dX7_valueAt_44 : decode cX7_valueAt 44 = .ok (.aload_n 0, 1) := by decide +kernel
theorem dX7_valueAt_45 : decode cX7_valueAt 45 = .ok (.getfield 112, 3) := by decide +kernel
theorem dX7_valueAt_48 : decode cX7_valueAt 48 = .ok (.ineg, 1) := by decide +kernel
theorem dX7_valueAt_49 : decode cX7_valueAt 49 = .ok (.goto 5, 3) := by decide +kernel
theorem dX7_valueAt_52 : decode cX7_valueAt 52 = .ok (.ldc 24, 2) := by decide +kernel
theorem dX7_valueAt_54 : decode cX7_valueAt 54 = .ok (.istore 6, 2) := by decide +kernel
theorem dX7_valueAt_56 : decode cX7_valueAt 56 = .ok (.iconst 0, 1) := by decide +kernel
theorem dX7_valueAt_57 : decode cX7_valueAt 57 = .ok (.istore 7, 2) := by decide +kernel
theorem dX7_valueAt_59 : decode cX7_valueAt 59 = .ok (.iload 7, 2) := by decide +kernel
theorem dX7_valueAt_61 : decode cX7_valueAt 61 = .ok (.bipush 20, 2) := by decide +kernel
theorem dX7_valueAt_63 : decode cX7_valueAt 63 = .ok (.if_icmp .gt 41, 3) := by decide +kernel
theorem dX7_valueAt_66 : decode cX7_valueAt 66 = .ok (.iload_n 3, 1) := by decide +kernel
theorem dX7_valueAt_67 : decode cX7_valueAt 67 = .ok (.iload 7, 2) := by decide +kernel
theorem dX7_valueAt_69 : decode cX7_valueAt 69 = .ok (.invokestatic 47, 3) := by decide +kernel
theorem dX7_valueAt_72 : decode cX7_valueAt 72 = .ok (.ifCond .eq 26, 3) := by decide +kernel
theorem dX7_valueAt_75 : decode cX7_valueAt 75 = .ok (.iload 6, 2) := by decide +kernel
theorem dX7_valueAt_77 : decode cX7_valueAt 77 = .ok (.aload_n 0, 1) := by decide +kernel
theorem dX7_valueAt_78 : decode cX7_valueAt 78 = .ok (.iload 7, 2) := by decide +kernel
theorem dX7_valueAt_80 : decode cX7_valueAt 80 = .ok (.iload 5, 2) := by decide +kernel
theorem dX7_valueAt_82 : decode cX7_valueAt 82 = .ok (.iload 4, 2) := by decide +kernel
theorem dX7_valueAt_84 : decode cX7_valueAt 84 = .ok (.iload 7, 2) := by decide +kernel
theorem dX7_valueAt_86 : decode cX7_valueAt 86 = .ok (.invokestatic 47, 3) := by decide +kernel
theorem dX7_valueAt_89 : decode cX7_valueAt 89 = .ok (.iload_n 2, 1) := by decide +kernel
theorem dX7_valueAt_90 : decode cX7_valueAt 90 = .ok (.invokevirtual 58, 3) := by decide +kernel
theorem dX7_valueAt_93 : decode cX7_valueAt 93 = .ok (.invokestatic 130, 3) := by decide +kernel
theorem dX7_valueAt_96 : decode cX7_valueAt 96 = .ok (.istore 6, 2) := by decide +kernel
theorem dX7_valueAt_98 : decode cX7_valueAt 98 = .ok (.iinc 7 1, 3) := by decide +kernel
theorem dX7_valueAt_101 : decode cX7_valueAt 101 = .ok (.goto (-42), 3) := by decide +kernel
theorem dX7_valueAt_104 : decode cX7_valueAt 104 = .ok (.aload_n 0, 1) := by decide +kernel
theorem dX7_valueAt_105 : decode cX7_valueAt 105 = .ok (.getfield 11, 3) := by decide +kernel
theorem dX7_valueAt_108 : decode cX7_valueAt 108 = .ok (.iload_n 1, 1) := by decide +kernel
theorem dX7_valueAt_109 : decode cX7_valueAt 109 = .ok (.iload 6, 2) := by decide +kernel
theorem dX7_valueAt_111 : decode cX7_valueAt 111 = .ok (.iastore, 1) := by decide +kernel
theorem dX7_valueAt_112 : decode cX7_valueAt 112 = .ok (.aload_n 0, 1) := by decide +kernel
theorem dX7_valueAt_113 : decode cX7_valueAt 113 = .ok (.getfield 11, 3) := by decide +kernel
theorem dX7_valueAt_116 : decode cX7_valueAt 116 = .ok (.iload_n 1, 1) := by decide +kernel
theorem dX7_valueAt_117 : decode cX7_valueAt 117 = .ok (.iaload, 1) := by decide +kernel
theorem dX7_valueAt_118 : decode cX7_valueAt 118 = .ok (.ireturn, 1) := by decide +kernel
set_option maxRecDepth 20000 in
theorem ggX8_init_X0_init : GoodIn wsX8_init wsX0_init := goodIn_r _ [31, 32, 2, 3, 33, 34, 35, 36, 37, 38, 39, 40, 41, 42, 43, 44, 45, 46, 47, 48, 49, 79, 80, 81, 82, 83, 84, 85, 86, 87, 88, 113, 114, 115, 116, 117, 118] (by decide +kernel) (by decide +kernel)
set_option maxRecDepth 20000 in
theorem gX8_init_X0_init_n11 : GoodIn wsX8_init (wsX0_init) := ggX8_init_X0_init
set_option maxRecDepth 20000 in
theorem ggX8_init_X1_init : GoodIn wsX8_init wsX1_init := goodIn_r _ [51, 52, 2, 3, 53, 54, 5, 6, 30, 31, 32, 33, 34, 35, 36, 37, 38, 39, 40, 41, 42, 43, 44, 45, 46, 47, 48, 49, 97, 98, 79, 80, 81, 82, 83, 84, 85, 86, 87, 88, 113, 114, 115, 116, 117, 118] (by decide +kernel) (by decide +kernel)
set_option maxRecDepth 20000 in
theorem gX8_init_X1_init_n24 : GoodIn wsX8_init (wsX1_init) := ggX8_init_X1_init
set_option maxRecDepth 20000 in
theorem ggX8_init_X7_init : GoodIn wsX8_init wsX7_init := goodIn_r _ [56, 57, 2, 3, 58, 59, 60, 61, 62, 63, 64, 99, 100, 101, 102, 103, 104, 105, 106] (by decide +kernel) (by decide +kernel)
set_option maxRecDepth 20000 in
theorem gX8_init_X7_init_n37 : GoodIn wsX8_init (wsX7_init) := ggX8_init_X7_init
set_option maxRecDepth 20000 in
theorem ggX8_init_X5_init : GoodIn wsX8_init wsX5_init := goodIn_r _ [66, 67, 2, 3, 58, 68, 107, 108] (by decide +kernel) (by decide +kernel)
set_option maxRecDepth 20000 in
theorem gX8_init_X5_init_n44 : GoodIn wsX8_init (wsX5_init) := ggX8_init_X5_init
set_option maxRecDepth 20000 in
theorem ggX8_init_X2_init : GoodIn wsX8_init wsX2_init := goodIn_r _ [70, 71, 2, 3, 72, 73, 109, 110] (by decide +kernel) (by decide +kernel)
set_option maxRecDepth 20000 in
theorem gX8_init_X2_init_n51 : GoodIn wsX8_init (wsX2_init) := ggX8_init_X2_init
set_option maxRecDepth 20000 in
theorem ggX8_init_X6_init : GoodIn wsX8_init wsX6_init := goodIn_r _ [75, 76, 2, 3, 77, 5, 6, 78, 30, 31, 32, 33, 34, 35, 36, 37, 38, 39, 40, 41, 42, 43, 44, 45, 46, 47, 48, 49, 79, 80, 81, 82, 83, 84, 85, 86, 87, 88, 111, 112, 113, 114, 115, 116, 117, 118] (by decide +kernel) (by decide +kernel)
set_option maxRecDepth 20000 in
theorem gX8_init_X6_init_n56 : GoodIn wsX8_init (wsX6_init) := ggX8_init_X6_init
theorem dX8_init_0 : decode cX8_init 0 = .ok (.aload_n 0, 1) := by decide +kernel
theorem dX8_init_1 : decode cX8_init 1 = .ok (.invokespecial 3, 3) := by decide +kernel
theorem dX8_init_4 : decode cX8_init 4 = .ok (.aload_n 0, 1) := by decide +kernel
theorem dX8_init_5 : decode cX8_init 5 = .ok (.new 9, 3) := by decide +kernel
theorem dX8_init_8 : decode cX8_init 8 = .ok (.dup, 1) := by decide +kernel
theorem dX8_init_9 : decode cX8_init 9 = .ok (.invokespecial 11, 3) := by decide +kernel
theorem dX8_init_12 : decode cX8_init 12 = .ok (.putfield 12, 3) := by decide +kernel
theorem dX8_init_15 : decode cX8_init 15 = .ok (.aload_n 0, 1) := by decide +kernel
theorem dX8_init_16 : decode cX8_init 16 = .ok (.new 9, 3) := by decide +kernel
theorem dX8_init_19 : decode cX8_init 19 = .ok (.dup, 1) := by decide +kernel
theorem dX8_init_20 : decode cX8_init 20 = .ok (.invokespecial 11, 3) := by decide +kernel
theorem dX8_init_23 : decode cX8_init 23 = .ok (.putfield 16, 3) := by decide +kernel
theorem dX8_init_26 : decode cX8_init 26 = .ok (.aload_n 0, 1) := by decide +kernel
theorem dX8_init_27 : decode cX8_init 27 = .ok (.new 9, 3) := by decide +kernel
theorem dX8_init_30 : decode cX8_init 30 = .ok (.dup, 1) := by decide +kernel
theorem dX8_init_31 : decode cX8_init 31 = .ok (.invokespecial 11, 3) := by decide +kernel
theorem dX8_init_34 : decode cX8_init 34 = .ok (.putfield 19, 3) := by decide +kernel
theorem dX8_init_37 : decode cX8_init 37 = .ok (.aload_n 0, 1) := by decide +kernel
theorem dX8_init_38 : decode cX8_init 38 = .ok (.new 22, 3) := by decide +kernel
theorem dX8_init_41 : decode cX8_init 41 = .ok (.dup, 1) := by decide +kernel
theorem dX8_init_42 : decode cX8_init 42 = .ok (.invokespecial 24, 3) := by decide +kernel
theorem dX8_init_45 : decode cX8_init 45 = .ok (.putfield 25, 3) := by decide +kernel
theorem dX8_init_48 : decode cX8_init 48 = .ok (.aload_n 0, 1) := by decide +kernel
theorem dX8_init_49 : decode cX8_init 49 = .ok (.iconst 2, 1) := by decide +kernel
theorem dX8_init_50 : decode cX8_init 50 = .ok (.anewarray 29, 3) := by decide +kernel
theorem dX8_init_53 : decode cX8_init 53 = .ok (.putfield 31, 3) := by decide +kernel
theorem dX8_init_56 : decode cX8_init 56 = .ok (.aload_n 0, 1) := by decide +kernel
theorem dX8_init_57 : decode cX8_init 57 = .ok (.new 35, 3) := by decide +kernel
theorem dX8_init_60 : decode cX8_init 60 = .ok (.dup, 1) := by decide +kernel
theorem dX8_init_61 : decode cX8_init 61 = .ok (.invokespecial 37, 3) := by decide +kernel
theorem dX8_init_64 : decode cX8_init 64 = .ok (.putfield 38, 3) := by decide +kernel
theorem dX8_init_67 : decode cX8_init 67 = .ok (.aload_n 0, 1) := by decide +kernel
theorem dX8_init_68 : decode cX8_init 68 = .ok (.new 42, 3) := by decide +kernel
theorem dX8_init_71 : decode cX8_init 71 = .ok (.dup, 1) := by decide +kernel
theorem dX8_init_72 : decode cX8_init 72 = .ok (.invokespecial 44, 3) := by decide +kernel
theorem dX8_init_75 : decode cX8_init 75 = .ok (.putfield 45, 3) := by decide +kernel
theorem dX8_init_78 : decode cX8_init 78 = .ok (.aload_n 0, 1) := by decide +kernel
theorem dX8_init_79 : decode cX8_init 79 = .ok (.new 49, 3) := by decide +kernel
theorem dX8_init_82 : decode cX8_init 82 = .ok (.dup, 1) := by decide +kernel
theorem dX8_init_83 : decode cX8_init 83 = .ok (.invokespecial 51, 3) := by decide +kernel
theorem dX8_init_86 : decode cX8_init 86 = .ok (.putfield 52, 3) := by decide +kernel
theorem dX8_init_89 : decode cX8_init 89 = .ok (.iconst 0, 1) := by decide +kernel
theorem dX8_init_90 : decode cX8_init 90 = .ok (.istore_n 1, 1) := by decide +kernel
theorem dX8_init_91 : decode cX8_init 91 = .ok (.iload_n 1, 1) := by decide +kernel
theorem dX8_init_92 : decode cX8_init 92 = .ok (.aload_n 0, 1) := by decide +kernel
theorem dX8_init_93 : decode cX8_init 93 = .ok (.getfield 31, 3) := by decide +kernel
theorem dX8_init_96 : decode cX8_init 96 = .ok (.arraylength, 1) := by decide +kernel
theorem dX8_init_97 : decode cX8_init 97 = .ok (.if_icmp .ge 22, 3) := by decide +kernel
theorem dX8_init_100 : decode cX8_init 100 = .ok (.aload_n 0, 1) := by decide +kernel
theorem dX8_init_101 : decode cX8_init 101 = .ok (.getfield 31, 3) := by decide +kernel
theorem dX8_init_104 : decode cX8_init 104 = .ok (.iload_n 1, 1) := by decide +kernel
theorem dX8_init_105 : decode cX8_init 105 = .ok (.new 29, 3) := by decide +kernel
theorem dX8_init_108 : decode cX8_init 108 = .ok (.dup, 1) := by decide +kernel
theorem dX8_init_109 : decode cX8_init 109 = .ok (.invokespecial 56, 3) := by decide +kernel
theorem dX8_init_112 : decode cX8_init 112 = .ok (.aastore, 1) := by decide +kernel
theorem dX8_init_113 : decode cX8_init 113 = .ok (.iinc 1 1, 3) := by decide +kernel
theorem dX8_init_116 : decode cX8_init 116 = .ok (.goto (-25), 3) := by decide +kernel
theorem dX8_init_119 : decode cX8_init 119 = .ok (.return_, 1) := by decide +kernel
set_option maxRecDepth 20000 in
theorem ggX8_set_X0_copyFrom : GoodIn wsX8_set wsX0_copyFrom := goodIn_r _ [6, 7, 8, 9, 10, 11, 12, 13, 14, 15, 16, 17, 18, 19, 20, 21, 22, 23, 24, 25, 26, 27, 28, 29, 30, 59, 60, 61, 62, 63, 64, 65, 66, 67, 68, 69, 70, 71, 72, 73, 74] (by decide +kernel) (by decide +kernel)
set_option maxRecDepth 20000 in
theorem gX8_set_X0_copyFrom_n57 : GoodIn wsX8_set (wsX0_copyFrom) := ggX8_set_X0_copyFrom
set_option maxRecDepth 20000 in
theorem ggX8_set_X8_changeSetting : GoodIn wsX8_set wsX8_changeSetting := goodIn_r _ [35, 2, 51, 52, 53, 54, 55, 56, 57, 58, 59, 60, 61, 62, 63, 64, 65, 66, 67, 68] (by decide +kernel) (by decide +kernel)
set_option maxRecDepth 20000 in
theorem gX8_set_X8_changeSetting : GoodIn wsX8_set (wsV RX8 61 RX8 yX8_changeSetting wsX8_changeSetting) := goodIn_app (goodIn_of _ (by decide +kernel)) ggX8_set_X8_changeSetting
set_option maxRecDepth 20000 in
theorem ggX8_set_X8_recorded : GoodIn wsX8_set wsX8_recorded := goodIn_r _ [39, 40, 1, 41, 42, 43, 44, 45, 46, 47, 48, 49, 50, 3, 4, 5, 6, 7, 8, 9, 10, 11, 12, 13, 14, 15, 16, 17, 18, 19, 20, 21, 22, 23, 24, 25, 26, 27, 28, 29, 30, 51, 52, 53, 54, 55, 56, 57, 58, 75, 76, 59, 60, 61, 62, 63, 64, 65, 66, 67, 68, 69, 70, 71, 72, 73, 74] (by decide +kernel) (by decide +kernel)
set_option maxRecDepth 20000 in
theorem gX8_set_X8_recorded : GoodIn wsX8_set (wsV RX8 65 RX8 yX8_recorded wsX8_recorded) := goodIn_app (goodIn_of _ (by decide +kernel)) ggX8_set_X8_recorded
theorem dX8_set_0 : decode cX8_set 0 = .ok (.aload_n 0, 1) := by decide +kernel
theorem dX8_set_1 : decode cX8_set 1 = .ok (.getfield 16, 3) := by decide +kernel
theorem dX8_set_4 : decode cX8_set 4 = .ok (.aload_n 0, 1) := by decide +kernel
theorem dX8_set_5 : decode cX8_set 5 = .ok (.getfield 12, 3) := by decide +kernel
theorem dX8_set_8 : decode cX8_set 8 = .ok (.invokevirtual 57, 3) := by decide +kernel
theorem dX8_set_11 : decode cX8_set 11 = .ok (.aload_n 0, 1) := by decide +kernel
theorem dX8_set_12 : decode cX8_set 12 = .ok (.aload_n 0, 1) := by decide +kernel
theorem dX8_set_13 : decode cX8_set 13 = .ok (.iload_n 1, 1) := by decide +kernel
theorem dX8_set_14 : decode cX8_set 14 = .ok (.iload_n 2, 1) := by decide +kernel
theorem dX8_set_15 : decode cX8_set 15 = .ok (.invokevirtual 61, 3) := by decide +kernel
theorem dX8_set_18 : decode cX8_set 18 = .ok (.invokevirtual 65, 3) := by decide +kernel
theorem dX8_set_21 : decode cX8_set 21 = .ok (.ireturn, 1) := by decide +kernel
set_option maxRecDepth 20000 in
theorem ggX8_pile_X0_copyFrom : GoodIn wsX8_pile wsX0_copyFrom := goodIn_r _ [6, 7, 8, 9, 10, 11, 12, 13, 14, 15, 16, 17, 18, 19, 20, 21, 22, 23, 24, 25, 26, 27, 28, 29, 30, 62, 63, 64, 65, 66, 67, 68, 69, 70, 71, 72, 73, 74, 75, 76, 77] (by decide +kernel) (by decide +kernel)
set_option maxRecDepth 20000 in
theorem gX8_pile_X0_copyFrom_n57 : GoodIn wsX8_pile (wsX0_copyFrom) := ggX8_pile_X0_copyFrom
set_option maxRecDepth 20000 in
theorem ggX8_pile_X8_addPile : GoodIn wsX8_pile wsX8_addPile := goodIn_r _ [35, 2, 36, 18, 37, 38, 21, 22, 23, 24, 54, 55, 56, 57, 58, 59, 60, 61, 62, 63, 64, 65, 66, 67, 68, 69, 70, 71, 72, 73, 74, 75] (by decide +kernel) (by decide +kernel)
set_option maxRecDepth 20000 in
theorem gX8_pile_X8_addPile : GoodIn wsX8_pile (wsV RX8 69 RX8 yX8_addPile wsX8_addPile) := goodIn_app (goodIn_of _ (by decide +kernel)) ggX8_pile_X8_addPile
set_option maxRecDepth 20000 in
theorem ggX8_pile_X8_recorded : GoodIn wsX8_pile wsX8_recorded := goodIn_r _ [42, 43, 1, 44, 45, 46, 47, 48, 49, 50, 51, 52, 53, 3, 4, 5, 6, 7, 8, 9, 10, 11, 12, 13, 14, 15, 16, 17, 18, 19, 20, 21, 22, 23, 24, 25, 26, 27, 28, 29, 30, 54, 55, 56, 57, 58, 59, 60, 61, 78, 79, 62, 63, 64, 65, 66, 67, 68, 69, 70, 71, 72, 73, 74, 75, 76, 77] (by decide +kernel) (by decide +kernel)
set_option maxRecDepth 20000 in
theorem gX8_pile_X8_recorded : GoodIn wsX8_pile (wsV RX8 65 RX8 yX8_recorded wsX8_recorded) := goodIn_app (goodIn_of _ (by decide +kernel)) ggX8_pile_X8_recorded
theorem dX8_pile_0 : decode cX8_pile 0 = .ok (.aload_n 0, 1) := by decide +kernel
theorem dX8_pile_1 : decode cX8_pile 1 = .ok (.getfield 16, 3) := by decide +kernel
theorem dX8_pile_4 : decode cX8_pile 4 = .ok (.aload_n 0, 1) := by decide +kernel
theorem dX8_pile_5 : decode cX8_pile 5 = .ok (.getfield 12, 3) := by decide +kernel
theorem dX8_pile_8 : decode cX8_pile 8 = .ok (.invokevirtual 57, 3) := by decide +kernel
theorem dX8_pile_11 : decode cX8_pile 11 = .ok (.aload_n 0, 1) := by decide +kernel
theorem dX8_pile_12 : decode cX8_pile 12 = .ok (.aload_n 0, 1) := by decide +kernel
theorem dX8_pile_13 : decode cX8_pile 13 = .ok (.iload_n 1, 1) := by decide +kernel
theorem dX8_pile_14 : decode cX8_pile 14 = .ok (.iload_n 2, 1) := by decide +kernel
theorem dX8_pile_15 : decode cX8_pile 15 = .ok (.iload_n 3, 1) := by decide +kernel
theorem dX8_pile_16 : decode cX8_pile 16 = .ok (.invokevirtual 69, 3) := by decide +kernel
theorem dX8_pile_19 : decode cX8_pile 19 = .ok (.invokevirtual 65, 3) := by decide +kernel
theorem dX8_pile_22 : decode cX8_pile 22 = .ok (.ireturn, 1) := by decide +kernel
set_option maxRecDepth 20000 in
theorem ggX8_passes_X0_copyFrom : GoodIn wsX8_passes wsX0_copyFrom := goodIn_r _ [6, 7, 8, 9, 10, 11, 12, 13, 14, 15, 16, 17, 18, 19, 20, 21, 22, 23, 24, 25, 26, 27, 28, 29, 30, 59, 60, 61, 62, 63, 64, 65, 66, 67, 68, 69, 70, 71, 72, 73, 74] (by decide +kernel) (by decide +kernel)
set_option maxRecDepth 20000 in
theorem gX8_passes_X0_copyFrom_n57 : GoodIn wsX8_passes (wsX0_copyFrom) := ggX8_passes_X0_copyFrom
set_option maxRecDepth 20000 in
theorem ggX8_passes_X8_givePasses : GoodIn wsX8_passes wsX8_givePasses := goodIn_r _ [35, 2, 51, 52, 53, 54, 55, 56, 57, 58, 59, 60, 61, 62, 63, 64, 65, 66, 67, 68, 73, 74] (by decide +kernel) (by decide +kernel)
set_option maxRecDepth 20000 in
theorem gX8_passes_X8_givePasses : GoodIn wsX8_passes (wsV RX8 73 RX8 yX8_givePasses wsX8_givePasses) := goodIn_app (goodIn_of _ (by decide +kernel)) ggX8_passes_X8_givePasses
set_option maxRecDepth 20000 in
theorem ggX8_passes_X8_recorded : GoodIn wsX8_passes wsX8_recorded := goodIn_r _ [39, 40, 1, 41, 42, 43, 44, 45, 46, 47, 48, 49, 50, 3, 4, 5, 6, 7, 8, 9, 10, 11, 12, 13, 14, 15, 16, 17, 18, 19, 20, 21, 22, 23, 24, 25, 26, 27, 28, 29, 30, 51, 52, 53, 54, 55, 56, 57, 58, 75, 76, 59, 60, 61, 62, 63, 64, 65, 66, 67, 68, 69, 70, 71, 72, 73, 74] (by decide +kernel) (by decide +kernel)
set_option maxRecDepth 20000 in
theorem gX8_passes_X8_recorded : GoodIn wsX8_passes (wsV RX8 65 RX8 yX8_recorded wsX8_recorded) := goodIn_app (goodIn_of _ (by decide +kernel)) ggX8_passes_X8_recorded
theorem dX8_passes_0 : decode cX8_passes 0 = .ok (.aload_n 0, 1) := by decide +kernel
theorem dX8_passes_1 : decode cX8_passes 1 = .ok (.getfield 16, 3) := by decide +kernel
theorem dX8_passes_4 : decode cX8_passes 4 = .ok (.aload_n 0, 1) := by decide +kernel
theorem dX8_passes_5 : decode cX8_passes 5 = .ok (.getfield 12, 3) := by decide +kernel
theorem dX8_passes_8 : decode cX8_passes 8 = .ok (.invokevirtual 57, 3) := by decide +kernel
theorem dX8_passes_11 : decode cX8_passes 11 = .ok (.aload_n 0, 1) := by decide +kernel
theorem dX8_passes_12 : decode cX8_passes 12 = .ok (.aload_n 0, 1) := by decide +kernel
theorem dX8_passes_13 : decode cX8_passes 13 = .ok (.iload_n 1, 1) := by decide +kernel
theorem dX8_passes_14 : decode cX8_passes 14 = .ok (.iload_n 2, 1) := by decide +kernel
theorem dX8_passes_15 : decode cX8_passes 15 = .ok (.invokevirtual 73, 3) := by decide +kernel
theorem dX8_passes_18 : decode cX8_passes 18 = .ok (.invokevirtual 65, 3) := by decide +kernel
theorem dX8_passes_21 : decode cX8_passes 21 = .ok (.ireturn, 1) := by decide +kernel
set_option maxRecDepth 20000 in
theorem ggX8_begin_X0_copyFrom : GoodIn wsX8_begin wsX0_copyFrom := goodIn_r _ [6, 7, 8, 9, 10, 11, 12, 13, 14, 15, 16, 17, 18, 19, 20, 21, 22, 23, 24, 25, 26, 27, 28, 29, 30, 61, 62, 63, 64, 65, 66, 67, 68, 69, 70, 71, 72, 73, 74, 75, 76] (by decide +kernel) (by decide +kernel)
set_option maxRecDepth 20000 in
theorem gX8_begin_X0_copyFrom_n57 : GoodIn wsX8_begin (wsX0_copyFrom) := ggX8_begin_X0_copyFrom
set_option maxRecDepth 20000 in
theorem ggX8_begin_X0_restart : GoodIn wsX8_begin wsX0_restart := goodIn_r _ [33, 9, 11, 12, 13, 14, 15, 16, 61, 62, 63, 64, 65, 66, 67, 68, 69, 70, 71, 72, 73, 74, 75, 76] (by decide +kernel) (by decide +kernel)
set_option maxRecDepth 20000 in
theorem gX8_begin_X0_restart_n76 : GoodIn wsX8_begin (wsX0_restart) := ggX8_begin_X0_restart
set_option maxRecDepth 20000 in
theorem ggX8_begin_X0_tokenSum : GoodIn wsX8_begin wsX0_tokenSum := goodIn_r _ [36, 9, 61, 62, 63, 64, 65, 66, 67, 68, 69, 70, 71, 72, 73, 74] (by decide +kernel) (by decide +kernel)
set_option maxRecDepth 20000 in
theorem gX8_begin_X0_tokenSum_n79 : GoodIn wsX8_begin (wsX0_tokenSum) := ggX8_begin_X0_tokenSum
set_option maxRecDepth 20000 in
theorem ggX8_begin_X8_recorded : GoodIn wsX8_begin wsX8_recorded := goodIn_r _ [41, 42, 1, 43, 44, 45, 46, 47, 48, 49, 50, 51, 52, 3, 4, 5, 6, 7, 8, 9, 10, 11, 12, 13, 14, 15, 16, 17, 18, 19, 20, 21, 22, 23, 24, 25, 26, 27, 28, 29, 30, 53, 54, 55, 56, 57, 58, 59, 60, 77, 78, 61, 62, 63, 64, 65, 66, 67, 68, 69, 70, 71, 72, 73, 74, 75, 76] (by decide +kernel) (by decide +kernel)
set_option maxRecDepth 20000 in
theorem gX8_begin_X8_recorded : GoodIn wsX8_begin (wsV RX8 65 RX8 yX8_recorded wsX8_recorded) := goodIn_app (goodIn_of _ (by decide +kernel)) ggX8_begin_X8_recorded
theorem dX8_begin_0 : decode cX8_begin 0 = .ok (.aload_n 0, 1) := by decide +kernel
theorem dX8_begin_1 : decode cX8_begin 1 = .ok (.getfield 16, 3) := by decide +kernel
theorem dX8_begin_4 : decode cX8_begin 4 = .ok (.aload_n 0, 1) := by decide +kernel
theorem dX8_begin_5 : decode cX8_begin 5 = .ok (.getfield 12, 3) := by decide +kernel
theorem dX8_begin_8 : decode cX8_begin 8 = .ok (.invokevirtual 57, 3) := by decide +kernel
theorem dX8_begin_11 : decode cX8_begin 11 = .ok (.aload_n 0, 1) := by decide +kernel
theorem dX8_begin_12 : decode cX8_begin 12 = .ok (.getfield 12, 3) := by decide +kernel
theorem dX8_begin_15 : decode cX8_begin 15 = .ok (.invokevirtual 76, 3) := by decide +kernel
theorem dX8_begin_18 : decode cX8_begin 18 = .ok (.aload_n 0, 1) := by decide +kernel
theorem dX8_begin_19 : decode cX8_begin 19 = .ok (.aload_n 0, 1) := by decide +kernel
theorem dX8_begin_20 : decode cX8_begin 20 = .ok (.getfield 12, 3) := by decide +kernel
theorem dX8_begin_23 : decode cX8_begin 23 = .ok (.invokevirtual 79, 3) := by decide +kernel
theorem dX8_begin_26 : decode cX8_begin 26 = .ok (.invokevirtual 65, 3) := by decide +kernel
theorem dX8_begin_29 : decode cX8_begin 29 = .ok (.ireturn, 1) := by decide +kernel
set_option maxRecDepth 20000 in
theorem ggX8_take_X0_copyFrom : GoodIn wsX8_take wsX0_copyFrom := goodIn_r _ [6, 7, 8, 9, 10, 11, 12, 13, 14, 15, 16, 17, 18, 19, 20, 21, 22, 23, 24, 25, 26, 27, 28, 29, 30, 93, 94, 95, 96, 97, 98, 99, 100, 101, 102, 103, 104, 105, 106, 107, 108] (by decide +kernel) (by decide +kernel)
set_option maxRecDepth 20000 in
theorem gX8_take_X0_copyFrom_n57 : GoodIn wsX8_take (wsX0_copyFrom) := ggX8_take_X0_copyFrom
set_option maxRecDepth 20000 in
theorem ggX8_take_X8_takeTokens : GoodIn wsX8_take wsX8_takeTokens := goodIn_r _ [35, 2, 36, 4, 37, 38, 10, 9, 39, 40, 34, 41, 42, 43, 44, 45, 46, 47, 48, 16, 7, 13, 15, 49, 50, 51, 52, 53, 54, 55, 11, 12, 56, 57, 58, 59, 60, 61, 62, 63, 64, 65, 66, 67, 68, 69, 14, 85, 86, 87, 88, 89, 90, 91, 92, 93, 94, 95, 96, 97, 98, 99, 100, 101, 102, 103, 104, 105, 106, 107, 108] (by decide +kernel) (by decide +kernel)
set_option maxRecDepth 20000 in
theorem gX8_take_X8_takeTokens : GoodIn wsX8_take (wsV RX8 83 RX8 yX8_takeTokens wsX8_takeTokens) := goodIn_app (goodIn_of _ (by decide +kernel)) ggX8_take_X8_takeTokens
set_option maxRecDepth 20000 in
theorem ggX8_take_X8_recorded : GoodIn wsX8_take wsX8_recorded := goodIn_r _ [73, 74, 1, 75, 76, 77, 78, 79, 80, 81, 82, 83, 84, 3, 4, 5, 6, 7, 8, 9, 10, 11, 12, 13, 14, 15, 16, 17, 18, 19, 20, 21, 22, 23, 24, 25, 26, 27, 28, 29, 30, 85, 86, 87, 88, 89, 90, 91, 92, 109, 110, 93, 94, 95, 96, 97, 98, 99, 100, 101, 102, 103, 104, 105, 106, 107, 108] (by decide +kernel) (by decide +kernel)
set_option maxRecDepth 20000 in
theorem gX8_take_X8_recorded : GoodIn wsX8_take (wsV RX8 65 RX8 yX8_recorded wsX8_recorded) := goodIn_app (goodIn_of _ (by decide +kernel)) ggX8_take_X8_recorded
theorem dX8_take_0 : decode cX8_take 0 = .ok (.aload_n 0, 1) := by decide +kernel
theorem dX8_take_1 : decode cX8_take 1 = .ok (.getfield 16, 3) := by decide +kernel
theorem dX8_take_4 : decode cX8_take 4 = .ok (.aload_n 0, 1) := by decide +kernel
theorem dX8_take_5 : decode cX8_take 5 = .ok (.getfield 12, 3) := by decide +kernel
theorem dX8_take_8 : decode cX8_take 8 = .ok (.invokevirtual 57, 3) := by decide +kernel
theorem dX8_take_11 : decode cX8_take 11 = .ok (.aload_n 0, 1) := by decide +kernel
theorem dX8_take_12 : decode cX8_take 12 = .ok (.aload_n 0, 1) := by decide +kernel
theorem dX8_take_13 : decode cX8_take 13 = .ok (.iload_n 1, 1) := by decide +kernel
theorem dX8_take_14 : decode cX8_take 14 = .ok (.iload_n 2, 1) := by decide +kernel
theorem dX8_take_15 : decode cX8_take 15 = .ok (.invokevirtual 83, 3) := by decide +kernel
theorem dX8_take_18 : decode cX8_take 18 = .ok (.invokevirtual 65, 3) := by decide +kernel
theorem dX8_take_21 : decode cX8_take 21 = .ok (.ireturn, 1) := by decide +kernel
set_option maxRecDepth 20000 in
theorem ggX8_pass_X0_copyFrom : GoodIn wsX8_pass wsX0_copyFrom := goodIn_r _ [6, 7, 8, 9, 10, 11, 12, 13, 14, 15, 16, 17, 18, 19, 20, 21, 22, 23, 24, 25, 26, 27, 28, 29, 30, 86, 87, 88, 89, 90, 91, 92, 93, 94, 95, 96, 97, 98, 99, 100, 101] (by decide +kernel) (by decide +kernel)
set_option maxRecDepth 20000 in
theorem gX8_pass_X0_copyFrom_n57 : GoodIn wsX8_pass (wsX0_copyFrom) := ggX8_pass_X0_copyFrom
set_option maxRecDepth 20000 in
theorem ggX8_pass_X8_usePass : GoodIn wsX8_pass wsX8_usePass := goodIn_r _ [35, 2, 36, 4, 37, 38, 39, 40, 41, 42, 16, 9, 7, 13, 15, 43, 44, 34, 45, 46, 47, 48, 49, 11, 12, 50, 51, 52, 53, 54, 55, 56, 57, 58, 59, 60, 61, 62, 14, 78, 79, 80, 81, 82, 83, 84, 85, 86, 87, 88, 89, 90, 91, 92, 93, 94, 95, 96, 97, 98, 99, 100, 101] (by decide +kernel) (by decide +kernel)
set_option maxRecDepth 20000 in
theorem gX8_pass_X8_usePass : GoodIn wsX8_pass (wsV RX8 86 RX8 yX8_usePass wsX8_usePass) := goodIn_app (goodIn_of _ (by decide +kernel)) ggX8_pass_X8_usePass
set_option maxRecDepth 20000 in
theorem ggX8_pass_X8_recorded : GoodIn wsX8_pass wsX8_recorded := goodIn_r _ [66, 67, 1, 68, 69, 70, 71, 72, 73, 74, 75, 76, 77, 3, 4, 5, 6, 7, 8, 9, 10, 11, 12, 13, 14, 15, 16, 17, 18, 19, 20, 21, 22, 23, 24, 25, 26, 27, 28, 29, 30, 78, 79, 80, 81, 82, 83, 84, 85, 102, 103, 86, 87, 88, 89, 90, 91, 92, 93, 94, 95, 96, 97, 98, 99, 100, 101] (by decide +kernel) (by decide +kernel)
set_option maxRecDepth 20000 in
theorem gX8_pass_X8_recorded : GoodIn wsX8_pass (wsV RX8 65 RX8 yX8_recorded wsX8_recorded) := goodIn_app (goodIn_of _ (by decide +kernel)) ggX8_pass_X8_recorded
theorem dX8_pass_0 : decode cX8_pass 0 = .ok (.aload_n 0, 1) := by decide +kernel
theorem dX8_pass_1 : decode cX8_pass 1 = .ok (.getfield 16, 3) := by decide +kernel
theorem dX8_pass_4 : decode cX8_pass 4 = .ok (.aload_n 0, 1) := by decide +kernel
theorem dX8_pass_5 : decode cX8_pass 5 = .ok (.getfield 12, 3) := by decide +kernel
theorem dX8_pass_8 : decode cX8_pass 8 = .ok (.invokevirtual 57, 3) := by decide +kernel
theorem dX8_pass_11 : decode cX8_pass 11 = .ok (.aload_n 0, 1) := by decide +kernel
theorem dX8_pass_12 : decode cX8_pass 12 = .ok (.aload_n 0, 1) := by decide +kernel
theorem dX8_pass_13 : decode cX8_pass 13 = .ok (.invokevirtual 86, 3) := by decide +kernel
theorem dX8_pass_16 : decode cX8_pass 16 = .ok (.invokevirtual 65, 3) := by decide +kernel
theorem dX8_pass_19 : decode cX8_pass 19 = .ok (.ireturn, 1) := by decide +kernel
set_option maxRecDepth 20000 in
theorem ggX8_play_X0_copyFrom : GoodIn wsX8_play wsX0_copyFrom := goodIn_r _ [6, 7, 8, 9, 10, 11, 12, 13, 14, 15, 16, 17, 18, 19, 20, 21, 22, 23, 24, 25, 26, 27, 28, 29, 30, 161, 162, 163, 164, 165, 166, 167, 168, 169, 170, 171, 172, 173, 174, 175, 176] (by decide +kernel) (by decide +kernel)
set_option maxRecDepth 20000 in
theorem gX8_play_X0_copyFrom_n57 : GoodIn wsX8_play (wsX0_copyFrom) := ggX8_play_X0_copyFrom
set_option maxRecDepth 20000 in
theorem ggX8_play_X8_playOn : GoodIn wsX8_play wsX8_playOn := goodIn_r _ [35, 2, 36, 37, 4, 38, 39, 40, 41, 42, 43, 16, 9, 7, 13, 15, 44, 45, 34, 46, 47, 48, 49, 50, 11, 12, 51, 52, 53, 54, 55, 56, 57, 58, 59, 60, 61, 62, 63, 64, 65, 66, 67, 68, 69, 70, 71, 72, 73, 74, 75, 76, 77, 78, 79, 80, 81, 82, 83, 84, 85, 86, 87, 88, 89, 90, 91, 92, 93, 94, 95, 96, 97, 98, 99, 100, 101, 102, 103, 104, 105, 106, 107, 108, 109, 110, 111, 112, 113, 114, 115, 116, 117, 118, 119, 120, 121, 122, 123, 124, 125, 126, 127, 128, 129, 14, 130, 131, 132, 133, 134, 135, 136, 137, 10, 153, 154, 155, 156, 157, 158, 159, 160, 161, 162, 163, 164, 165, 166, 167, 168, 169, 170, 171, 172, 173, 174, 175, 176, 177, 178, 179, 180, 181, 182, 183, 184] (by decide +kernel) (by decide +kernel)
set_option maxRecDepth 20000 in
theorem gX8_play_X8_playOn : GoodIn wsX8_play (wsV RX8 89 RX8 yX8_playOn wsX8_playOn) := goodIn_app (goodIn_of _ (by decide +kernel)) ggX8_play_X8_playOn
set_option maxRecDepth 20000 in
theorem ggX8_play_X8_recorded : GoodIn wsX8_play wsX8_recorded := goodIn_r _ [141, 142, 1, 143, 144, 145, 146, 147, 148, 149, 150, 151, 152, 3, 4, 5, 6, 7, 8, 9, 10, 11, 12, 13, 14, 15, 16, 17, 18, 19, 20, 21, 22, 23, 24, 25, 26, 27, 28, 29, 30, 153, 154, 155, 156, 157, 158, 159, 160, 185, 186, 161, 162, 163, 164, 165, 166, 167, 168, 169, 170, 171, 172, 173, 174, 175, 176] (by decide +kernel) (by decide +kernel)
set_option maxRecDepth 20000 in
theorem gX8_play_X8_recorded : GoodIn wsX8_play (wsV RX8 65 RX8 yX8_recorded wsX8_recorded) := goodIn_app (goodIn_of _ (by decide +kernel)) ggX8_play_X8_recorded
theorem dX8_play_0 : decode cX8_play 0 = .ok (.aload_n 0, 1) := by decide +kernel
theorem dX8_play_1 : decode cX8_play 1 = .ok (.getfield 16, 3) := by decide +kernel
theorem dX8_play_4 : decode cX8_play 4 = .ok (.aload_n 0, 1) := by decide +kernel
theorem dX8_play_5 : decode cX8_play 5 = .ok (.getfield 12, 3) := by decide +kernel
theorem dX8_play_8 : decode cX8_play 8 = .ok (.invokevirtual 57, 3) := by decide +kernel
theorem dX8_play_11 : decode cX8_play 11 = .ok (.aload_n 0, 1) := by decide +kernel
theorem dX8_play_12 : decode cX8_play 12 = .ok (.aload_n 0, 1) := by decide +kernel
theorem dX8_play_13 : decode cX8_play 13 = .ok (.iload_n 1, 1) := by decide +kernel
theorem dX8_play_14 : decode cX8_play 14 = .ok (.invokevirtual 89, 3) := by decide +kernel
theorem dX8_play_17 : decode cX8_play 17 = .ok (.invokevirtual 65, 3) := by decide +kernel
theorem dX8_play_20 : decode cX8_play 20 = .ok (.ireturn, 1) := by decide +kernel
set_option maxRecDepth 20000 in
theorem ggX8_ofPile_X0_hasPile : GoodIn wsX8_ofPile wsX0_hasPile := goodIn_r _ [6, 7, 8, 37, 38, 39, 40, 41, 42, 43, 44, 45, 46] (by decide +kernel) (by decide +kernel)
set_option maxRecDepth 20000 in
theorem gX8_ofPile_X0_hasPile_n92 : GoodIn wsX8_ofPile (wsX0_hasPile) := ggX8_ofPile_X0_hasPile
set_option maxRecDepth 20000 in
theorem ggX8_ofPile_X5_nimber : GoodIn wsX8_ofPile wsX5_nimber := goodIn_r _ [12, 13, 14, 15, 16, 10, 17, 18, 19, 20, 21, 22, 23, 24, 25, 26, 27, 28, 51, 52] (by decide +kernel) (by decide +kernel)
set_option maxRecDepth 20000 in
theorem gX8_ofPile_X5_nimber_n119 : GoodIn wsX8_ofPile (wsX5_nimber) := ggX8_ofPile_X5_nimber
theorem dX8_ofPile_0 : decode cX8_ofPile 0 = .ok (.aload_n 0, 1) := by decide +kernel
theorem dX8_ofPile_1 : decode cX8_ofPile 1 = .ok (.getfield 12, 3) := by decide +kernel
theorem dX8_ofPile_4 : decode cX8_ofPile 4 = .ok (.iload_n 1, 1) := by decide +kernel
theorem dX8_ofPile_5 : decode cX8_ofPile 5 = .ok (.invokevirtual 92, 3) := by decide +kernel
theorem dX8_ofPile_8 : decode cX8_ofPile 8 = .ok (.ifCond .ne 5, 3) := by decide +kernel
theorem dX8_ofPile_11 : decode cX8_ofPile 11 = .ok (.iconst (-1), 1) := by decide +kernel
theorem dX8_ofPile_12 : decode cX8_ofPile 12 = .ok (.ireturn, 1) := by decide +kernel
theorem dX8_ofPile_13 : decode cX8_ofPile 13 = .ok (.aload_n 0, 1) := by decide +kernel
theorem dX8_ofPile_14 : decode cX8_ofPile 14 = .ok (.getfield 12, 3) := by decide +kernel
theorem dX8_ofPile_17 : decode cX8_ofPile 17 = .ok (.getfield 96, 3) := by decide +kernel
theorem dX8_ofPile_20 : decode cX8_ofPile 20 = .ok (.iload_n 1, 1) := by decide +kernel
theorem dX8_ofPile_21 : decode cX8_ofPile 21 = .ok (.aaload, 1) := by decide +kernel
theorem dX8_ofPile_22 : decode cX8_ofPile 22 = .ok (.astore_n 3, 1) := by decide +kernel
theorem dX8_ofPile_23 : decode cX8_ofPile 23 = .ok (.iload_n 2, 1) := by decide +kernel
theorem dX8_ofPile_24 : decode cX8_ofPile 24 = .ok (.tableswitch 83 0 4 #[36, 41, 46, 59, 64], 36) := by decide +kernel
theorem dX8_ofPile_60 : decode cX8_ofPile 60 = .ok (.aload_n 3, 1) := by decide +kernel
theorem dX8_ofPile_61 : decode cX8_ofPile 61 = .ok (.getfield 100, 3) := by decide +kernel
theorem dX8_ofPile_64 : decode cX8_ofPile 64 = .ok (.ireturn, 1) := by decide +kernel
theorem dX8_ofPile_65 : decode cX8_ofPile 65 = .ok (.aload_n 3, 1) := by decide +kernel
theorem dX8_ofPile_66 : decode cX8_ofPile 66 = .ok (.getfield 106, 3) := by decide +kernel
theorem dX8_ofPile_69 : decode cX8_ofPile 69 = .ok (.ireturn, 1) := by decide +kernel
theorem dX8_ofPile_70 : decode cX8_ofPile 70 = .ok (.aload_n 3, 1) := by decide +kernel
theorem dX8_ofPile_71 : decode cX8_ofPile 71 = .ok (.getfield 109, 3) := by decide +kernel
theorem dX8_ofPile_74 : decode cX8_ofPile 74 = .ok (.ifCond .eq 7, 3) := by decide +kernel
theorem dX8_ofPile_77 : decode cX8_ofPile 77 = .ok (.iconst 1, 1) := by decide +kernel
theorem dX8_ofPile_78 : decode cX8_ofPile 78 = .ok (.goto 4, 3) := by decide +kernel
theorem dX8_ofPile_81 : decode cX8_ofPile 81 = .ok (.iconst 0, 1) := by decide +kernel
theorem dX8_ofPile_82 : decode cX8_ofPile 82 = .ok (.ireturn, 1) := by decide +kernel
theorem dX8_ofPile_83 : decode cX8_ofPile 83 = .ok (.aload_n 3, 1) := by decide +kernel
theorem dX8_ofPile_84 : decode cX8_ofPile 84 = .ok (.getfield 113, 3) := by decide +kernel
theorem dX8_ofPile_87 : decode cX8_ofPile 87 = .ok (.ireturn, 1) := by decide +kernel
theorem dX8_ofPile_88 : decode cX8_ofPile 88 = .ok (.aload_n 0, 1) := by decide +kernel
theorem dX8_ofPile_89 : decode cX8_ofPile 89 = .ok (.getfield 45, 3) := by decide +kernel
theorem dX8_ofPile_92 : decode cX8_ofPile 92 = .ok (.aload_n 0, 1) := by decide +kernel
theorem dX8_ofPile_93 : decode cX8_ofPile 93 = .ok (.getfield 12, 3) := by decide +kernel
theorem dX8_ofPile_96 : decode cX8_ofPile 96 = .ok (.getfield 116, 3) := by decide +kernel
theorem dX8_ofPile_99 : decode cX8_ofPile 99 = .ok (.aload_n 3, 1) := by decide +kernel
theorem dX8_ofPile_100 : decode cX8_ofPile 100 = .ok (.getfield 100, 3) := by decide +kernel
theorem dX8_ofPile_103 : decode cX8_ofPile 103 = .ok (.invokevirtual 119, 3) := by decide +kernel
theorem dX8_ofPile_106 : decode cX8_ofPile 106 = .ok (.ireturn, 1) := by decide +kernel
theorem dX8_ofPile_107 : decode cX8_ofPile 107 = .ok (.bipush (-2), 2) := by decide +kernel
theorem dX8_ofPile_109 : decode cX8_ofPile 109 = .ok (.ireturn, 1) := by decide +kernel
set_option maxRecDepth 20000 in
theorem ggX8_ofPlayer_X0_player : GoodIn wsX8_ofPlayer wsX0_player := goodIn_r _ [5, 6, 7, 48, 49, 50, 51, 52, 53, 54, 55, 56, 57] (by decide +kernel) (by decide +kernel)
set_option maxRecDepth 20000 in
theorem gX8_ofPlayer_X0_player_n122 : GoodIn wsX8_ofPlayer (wsX0_player) := ggX8_ofPlayer_X0_player
set_option maxRecDepth 20000 in
theorem ggX8_ofPlayer_X0_purse : GoodIn wsX8_ofPlayer wsX0_purse := goodIn_r _ [10, 11, 12, 2, 4, 3, 5, 6, 7, 13, 14, 15, 16, 17, 18, 19, 20, 21, 22, 23, 24, 25, 26, 27, 28, 29, 30, 31, 32, 33, 34, 35, 36, 37, 46, 47, 48, 49, 50, 51, 52, 53, 54, 55, 56, 57, 58, 59, 60, 61] (by decide +kernel) (by decide +kernel)
set_option maxRecDepth 20000 in
theorem gX8_ofPlayer_X0_purse_n134 : GoodIn wsX8_ofPlayer (wsX0_purse) := ggX8_ofPlayer_X0_purse
theorem dX8_ofPlayer_0 : decode cX8_ofPlayer 0 = .ok (.iload_n 1, 1) := by decide +kernel
theorem dX8_ofPlayer_1 : decode cX8_ofPlayer 1 = .ok (.ifCond .eq 10, 3) := by decide +kernel
theorem dX8_ofPlayer_4 : decode cX8_ofPlayer 4 = .ok (.iload_n 1, 1) := by decide +kernel
theorem dX8_ofPlayer_5 : decode cX8_ofPlayer 5 = .ok (.iconst 1, 1) := by decide +kernel
theorem dX8_ofPlayer_6 : decode cX8_ofPlayer 6 = .ok (.if_icmp .eq 5, 3) := by decide +kernel
theorem dX8_ofPlayer_9 : decode cX8_ofPlayer 9 = .ok (.iconst (-1), 1) := by decide +kernel
theorem dX8_ofPlayer_10 : decode cX8_ofPlayer 10 = .ok (.ireturn, 1) := by decide +kernel
theorem dX8_ofPlayer_11 : decode cX8_ofPlayer 11 = .ok (.iload_n 2, 1) := by decide +kernel
theorem dX8_ofPlayer_12 : decode cX8_ofPlayer 12 = .ok (.tableswitch 64 0 2 #[28, 40, 52], 28) := by decide +kernel
theorem dX8_ofPlayer_40 : decode cX8_ofPlayer 40 = .ok (.aload_n 0, 1) := by decide +kernel
theorem dX8_ofPlayer_41 : decode cX8_ofPlayer 41 = .ok (.getfield 12, 3) := by decide +kernel
theorem dX8_ofPlayer_44 : decode cX8_ofPlayer 44 = .ok (.iload_n 1, 1) := by decide +kernel
theorem dX8_ofPlayer_45 : decode cX8_ofPlayer 45 = .ok (.invokevirtual 122, 3) := by decide +kernel
theorem dX8_ofPlayer_48 : decode cX8_ofPlayer 48 = .ok (.getfield 126, 3) := by decide +kernel
theorem dX8_ofPlayer_51 : decode cX8_ofPlayer 51 = .ok (.ireturn, 1) := by decide +kernel
theorem dX8_ofPlayer_52 : decode cX8_ofPlayer 52 = .ok (.aload_n 0, 1) := by decide +kernel
theorem dX8_ofPlayer_53 : decode cX8_ofPlayer 53 = .ok (.getfield 12, 3) := by decide +kernel
theorem dX8_ofPlayer_56 : decode cX8_ofPlayer 56 = .ok (.iload_n 1, 1) := by decide +kernel
theorem dX8_ofPlayer_57 : decode cX8_ofPlayer 57 = .ok (.invokevirtual 122, 3) := by decide +kernel
theorem dX8_ofPlayer_60 : decode cX8_ofPlayer 60 = .ok (.getfield 131, 3) := by decide +kernel
theorem dX8_ofPlayer_63 : decode cX8_ofPlayer 63 = .ok (.ireturn, 1) := by decide +kernel
theorem dX8_ofPlayer_64 : decode cX8_ofPlayer 64 = .ok (.aload_n 0, 1) := by decide +kernel
theorem dX8_ofPlayer_65 : decode cX8_ofPlayer 65 = .ok (.getfield 12, 3) := by decide +kernel
theorem dX8_ofPlayer_68 : decode cX8_ofPlayer 68 = .ok (.iload_n 1, 1) := by decide +kernel
theorem dX8_ofPlayer_69 : decode cX8_ofPlayer 69 = .ok (.invokevirtual 134, 3) := by decide +kernel
theorem dX8_ofPlayer_72 : decode cX8_ofPlayer 72 = .ok (.bipush 100, 2) := by decide +kernel
theorem dX8_ofPlayer_74 : decode cX8_ofPlayer 74 = .ok (.iadd, 1) := by decide +kernel
theorem dX8_ofPlayer_75 : decode cX8_ofPlayer 75 = .ok (.ireturn, 1) := by decide +kernel
theorem dX8_ofPlayer_76 : decode cX8_ofPlayer 76 = .ok (.bipush (-2), 2) := by decide +kernel
theorem dX8_ofPlayer_78 : decode cX8_ofPlayer 78 = .ok (.ireturn, 1) := by decide +kernel
set_option maxRecDepth 20000 in
theorem ggX8_count_X0_tokenSum : GoodIn wsX8_count wsX0_tokenSum := goodIn_r _ [7, 8, 43, 44, 45, 46, 47, 48, 49, 50, 51, 52, 57, 58, 59, 60] (by decide +kernel) (by decide +kernel)
set_option maxRecDepth 20000 in
theorem gX8_count_X0_tokenSum_n79 : GoodIn wsX8_count (wsX0_tokenSum) := ggX8_count_X0_tokenSum
set_option maxRecDepth 20000 in
theorem ggX8_count_X0_isOver : GoodIn wsX8_count wsX0_isOver := goodIn_r _ [11, 12, 13, 14, 5, 15, 16, 8, 17, 18, 19, 20, 21, 22, 23, 24, 25, 26, 27, 28, 29, 30, 4, 6, 7, 43, 44, 45, 46, 47, 48, 49, 50, 51, 52, 57, 58, 59, 60, 61, 62] (by decide +kernel) (by decide +kernel)
set_option maxRecDepth 20000 in
theorem gX8_count_X0_isOver_n143 : GoodIn wsX8_count (wsX0_isOver) := ggX8_count_X0_isOver
set_option maxRecDepth 20000 in
theorem ggX8_count_X0_winner : GoodIn wsX8_count wsX0_winner := goodIn_r _ [33, 16, 18, 34, 9, 10, 5, 11, 12, 13, 14, 15, 8, 17, 19, 20, 21, 22, 23, 24, 25, 26, 27, 28, 29, 30, 4, 6, 7, 43, 44, 45, 46, 47, 48, 49, 50, 51, 52, 57, 58, 59, 60, 61, 62] (by decide +kernel) (by decide +kernel)
set_option maxRecDepth 20000 in
theorem gX8_count_X0_winner_n147 : GoodIn wsX8_count (wsX0_winner) := ggX8_count_X0_winner
theorem dX8_count_0 : decode cX8_count 0 = .ok (.iload_n 1, 1) := by decide +kernel
theorem dX8_count_1 : decode cX8_count 1 = .ok (.tableswitch 163 0 10 #[59, 67, 75, 83, 99, 107, 115, 131, 139, 147, 155], 59) := by decide +kernel
theorem dX8_count_60 : decode cX8_count 60 = .ok (.aload_n 0, 1) := by decide +kernel
theorem dX8_count_61 : decode cX8_count 61 = .ok (.getfield 12, 3) := by decide +kernel
theorem dX8_count_64 : decode cX8_count 64 = .ok (.getfield 137, 3) := by decide +kernel
theorem dX8_count_67 : decode cX8_count 67 = .ok (.ireturn, 1) := by decide +kernel
theorem dX8_count_68 : decode cX8_count 68 = .ok (.aload_n 0, 1) := by decide +kernel
theorem dX8_count_69 : decode cX8_count 69 = .ok (.getfield 12, 3) := by decide +kernel
theorem dX8_count_72 : decode cX8_count 72 = .ok (.invokevirtual 79, 3) := by decide +kernel
theorem dX8_count_75 : decode cX8_count 75 = .ok (.ireturn, 1) := by decide +kernel
theorem dX8_count_76 : decode cX8_count 76 = .ok (.aload_n 0, 1) := by decide +kernel
theorem dX8_count_77 : decode cX8_count 77 = .ok (.getfield 12, 3) := by decide +kernel
theorem dX8_count_80 : decode cX8_count 80 = .ok (.getfield 140, 3) := by decide +kernel
theorem dX8_count_83 : decode cX8_count 83 = .ok (.ireturn, 1) := by decide +kernel
theorem dX8_count_84 : decode cX8_count 84 = .ok (.aload_n 0, 1) := by decide +kernel
theorem dX8_count_85 : decode cX8_count 85 = .ok (.getfield 12, 3) := by decide +kernel
theorem dX8_count_88 : decode cX8_count 88 = .ok (.invokevirtual 143, 3) := by decide +kernel
theorem dX8_count_91 : decode cX8_count 91 = .ok (.ifCond .eq 7, 3) := by decide +kernel
theorem dX8_count_94 : decode cX8_count 94 = .ok (.iconst 1, 1) := by decide +kernel
theorem dX8_count_95 : decode cX8_count 95 = .ok (.goto 4, 3) := by decide +kernel
theorem dX8_count_98 : decode cX8_count 98 = .ok (.iconst 0, 1) := by decide +kernel
theorem dX8_count_99 : decode cX8_count 99 = .ok (.ireturn, 1) := by decide +kernel
theorem dX8_count_100 : decode cX8_count 100 = .ok (.aload_n 0, 1) := by decide +kernel
theorem dX8_count_101 : decode cX8_count 101 = .ok (.getfield 12, 3) := by decide +kernel
theorem dX8_count_104 : decode cX8_count 104 = .ok (.invokevirtual 147, 3) := by decide +kernel
theorem dX8_count_107 : decode cX8_count 107 = .ok (.ireturn, 1) := by decide +kernel
theorem dX8_count_108 : decode cX8_count 108 = .ok (.aload_n 0, 1) := by decide +kernel
theorem dX8_count_109 : decode cX8_count 109 = .ok (.getfield 12, 3) := by decide +kernel
theorem dX8_count_112 : decode cX8_count 112 = .ok (.getfield 150, 3) := by decide +kernel
theorem dX8_count_115 : decode cX8_count 115 = .ok (.ireturn, 1) := by decide +kernel
theorem dX8_count_116 : decode cX8_count 116 = .ok (.aload_n 0, 1) := by decide +kernel
theorem dX8_count_117 : decode cX8_count 117 = .ok (.getfield 12, 3) := by decide +kernel
theorem dX8_count_120 : decode cX8_count 120 = .ok (.getfield 153, 3) := by decide +kernel
theorem dX8_count_123 : decode cX8_count 123 = .ok (.ifCond .eq 7, 3) := by decide +kernel
theorem dX8_count_126 : decode cX8_count 126 = .ok (.iconst 1, 1) := by decide +kernel
theorem dX8_count_127 : decode cX8_count 127 = .ok (.goto 4, 3) := by decide +kernel
theorem dX8_count_130 : decode cX8_count 130 = .ok (.iconst 0, 1) := by decide +kernel
theorem dX8_count_131 : decode cX8_count 131 = .ok (.ireturn, 1) := by decide +kernel
theorem dX8_count_132 : decode cX8_count 132 = .ok (.aload_n 0, 1) := by decide +kernel
theorem dX8_count_133 : decode cX8_count 133 = .ok (.getfield 12, 3) := by decide +kernel
theorem dX8_count_136 : decode cX8_count 136 = .ok (.getfield 116, 3) := by decide +kernel
theorem dX8_count_139 : decode cX8_count 139 = .ok (.ireturn, 1) := by decide +kernel
theorem dX8_count_140 : decode cX8_count 140 = .ok (.aload_n 0, 1) := by decide +kernel
theorem dX8_count_141 : decode cX8_count 141 = .ok (.getfield 12, 3) := by decide +kernel
theorem dX8_count_144 : decode cX8_count 144 = .ok (.getfield 156, 3) := by decide +kernel
theorem dX8_count_147 : decode cX8_count 147 = .ok (.ireturn, 1) := by decide +kernel
theorem dX8_count_148 : decode cX8_count 148 = .ok (.aload_n 0, 1) := by decide +kernel
theorem dX8_count_149 : decode cX8_count 149 = .ok (.getfield 52, 3) := by decide +kernel
theorem dX8_count_152 : decode cX8_count 152 = .ok (.getfield 159, 3) := by decide +kernel
theorem dX8_count_155 : decode cX8_count 155 = .ok (.ireturn, 1) := by decide +kernel
theorem dX8_count_156 : decode cX8_count 156 = .ok (.aload_n 0, 1) := by decide +kernel
theorem dX8_count_157 : decode cX8_count 157 = .ok (.getfield 25, 3) := by decide +kernel
theorem dX8_count_160 : decode cX8_count 160 = .ok (.getfield 162, 3) := by decide +kernel
theorem dX8_count_163 : decode cX8_count 163 = .ok (.ireturn, 1) := by decide +kernel
theorem dX8_count_164 : decode cX8_count 164 = .ok (.bipush (-2), 2) := by decide +kernel
theorem dX8_count_166 : decode cX8_count 166 = .ok (.ireturn, 1) := by decide +kernel
set_option maxRecDepth 20000 in
theorem ggX8_moves_X0_moveSet : GoodIn wsX8_moves wsX0_moveSet := goodIn_r _ [5, 6, 7, 8, 9, 10, 11, 12, 13, 14, 15, 16, 17, 3, 18, 19, 20, 21, 22, 23, 24, 33, 34, 35, 36, 37, 38, 39, 40, 41, 42, 43, 44, 45, 46, 47, 48] (by decide +kernel) (by decide +kernel)
set_option maxRecDepth 20000 in
theorem gX8_moves_X0_moveSet_n165 : GoodIn wsX8_moves (wsX0_moveSet) := ggX8_moves_X0_moveSet
theorem dX8_moves_0 : decode cX8_moves 0 = .ok (.aload_n 0, 1) := by decide +kernel
theorem dX8_moves_1 : decode cX8_moves 1 = .ok (.getfield 12, 3) := by decide +kernel
theorem dX8_moves_4 : decode cX8_moves 4 = .ok (.invokevirtual 165, 3) := by decide +kernel
theorem dX8_moves_7 : decode cX8_moves 7 = .ok (.ireturn, 1) := by decide +kernel
set_option maxRecDepth 20000 in
theorem ggX8_won_X0_isOver : GoodIn wsX8_won wsX0_isOver := goodIn_r _ [6, 7, 8, 9, 4, 10, 11, 12, 13, 14, 15, 16, 17, 18, 19, 20, 21, 22, 23, 24, 25, 26, 27, 28, 29, 94, 95, 96, 97, 98, 99, 100, 101, 102, 103, 104, 105, 106, 107, 108, 109] (by decide +kernel) (by decide +kernel)
set_option maxRecDepth 20000 in
theorem gX8_won_X0_isOver_n143 : GoodIn wsX8_won (wsX0_isOver) := ggX8_won_X0_isOver
set_option maxRecDepth 20000 in
theorem ggX8_won_X7_isWon : GoodIn wsX8_won wsX7_isWon := goodIn_r _ [33, 34, 35, 36, 31, 37, 38, 39, 40, 41, 42, 43, 44, 45, 46, 47, 48, 49, 50, 51, 52, 53, 54, 55, 56, 57, 58, 18, 59, 21, 4, 22, 23, 24, 25, 60, 61, 62, 63, 64, 65, 66, 67, 68, 69, 70, 71, 17, 19, 72, 73, 74, 75, 76, 77, 78, 79, 80, 81, 82, 83, 84, 85, 94, 95, 96, 97, 98, 99, 100, 101, 102, 103, 104, 105, 106, 107, 108, 109, 110, 111, 112, 113, 114, 115, 116, 117] (by decide +kernel) (by decide +kernel)
set_option maxRecDepth 20000 in
theorem gX8_won_X7_isWon_n168 : GoodIn wsX8_won (wsX7_isWon) := ggX8_won_X7_isWon
theorem dX8_won_0 : decode cX8_won 0 = .ok (.aload_n 0, 1) := by decide +kernel
theorem dX8_won_1 : decode cX8_won 1 = .ok (.getfield 12, 3) := by decide +kernel
theorem dX8_won_4 : decode cX8_won 4 = .ok (.invokevirtual 143, 3) := by decide +kernel
theorem dX8_won_7 : decode cX8_won 7 = .ok (.ifCond .eq 6, 3) := by decide +kernel
theorem dX8_won_10 : decode cX8_won 10 = .ok (.bipush (-5), 2) := by decide +kernel
theorem dX8_won_12 : decode cX8_won 12 = .ok (.ireturn, 1) := by decide +kernel
theorem dX8_won_13 : decode cX8_won 13 = .ok (.aload_n 0, 1) := by decide +kernel
theorem dX8_won_14 : decode cX8_won 14 = .ok (.getfield 38, 3) := by decide +kernel
theorem dX8_won_17 : decode cX8_won 17 = .ok (.aload_n 0, 1) := by decide +kernel
theorem dX8_won_18 : decode cX8_won 18 = .ok (.getfield 12, 3) := by decide +kernel
theorem dX8_won_21 : decode cX8_won 21 = .ok (.invokevirtual 168, 3) := by decide +kernel
theorem dX8_won_24 : decode cX8_won 24 = .ok (.ifCond .eq 7, 3) := by decide +kernel
theorem dX8_won_27 : decode cX8_won 27 = .ok (.iconst 1, 1) := by decide +kernel
theorem dX8_won_28 : decode cX8_won 28 = .ok (.goto 4, 3) := by decide +kernel
theorem dX8_won_31 : decode cX8_won 31 = .ok (.iconst 0, 1) := by decide +kernel
theorem dX8_won_32 : decode cX8_won 32 = .ok (.ireturn, 1) := by decide +kernel
set_option maxRecDepth 20000 in
theorem ggX8_winning_X0_isOver : GoodIn wsX8_winning wsX0_isOver := goodIn_r _ [6, 7, 8, 9, 4, 10, 11, 12, 13, 14, 15, 16, 17, 18, 19, 20, 21, 22, 23, 24, 25, 26, 27, 28, 29, 94, 95, 96, 97, 98, 99, 100, 101, 102, 103, 104, 105, 106, 107, 108, 109] (by decide +kernel) (by decide +kernel)
set_option maxRecDepth 20000 in
theorem gX8_winning_X0_isOver_n143 : GoodIn wsX8_winning (wsX0_isOver) := ggX8_winning_X0_isOver
set_option maxRecDepth 20000 in
theorem ggX8_winning_X7_winningMoves : GoodIn wsX8_winning wsX7_winningMoves := goodIn_r _ [33, 34, 35, 36, 31, 37, 38, 39, 40, 41, 42, 43, 44, 45, 46, 47, 48, 49, 50, 51, 52, 53, 54, 55, 56, 57, 58, 18, 59, 21, 4, 22, 23, 24, 25, 60, 61, 62, 63, 64, 17, 19, 65, 66, 67, 68, 69, 70, 71, 72, 73, 74, 75, 76, 77, 78, 79, 80, 81, 82, 83, 84, 85, 94, 95, 96, 97, 98, 99, 100, 101, 102, 103, 104, 105, 106, 107, 108, 109, 110, 111, 112, 113, 114, 115, 116, 117] (by decide +kernel) (by decide +kernel)
set_option maxRecDepth 20000 in
theorem gX8_winning_X7_winningMoves_n172 : GoodIn wsX8_winning (wsX7_winningMoves) := ggX8_winning_X7_winningMoves
theorem dX8_winning_0 : decode cX8_winning 0 = .ok (.aload_n 0, 1) := by decide +kernel
theorem dX8_winning_1 : decode cX8_winning 1 = .ok (.getfield 12, 3) := by decide +kernel
theorem dX8_winning_4 : decode cX8_winning 4 = .ok (.invokevirtual 143, 3) := by decide +kernel
theorem dX8_winning_7 : decode cX8_winning 7 = .ok (.ifCond .eq 8, 3) := by decide +kernel
theorem dX8_winning_10 : decode cX8_winning 10 = .ok (.bipush (-5), 2) := by decide +kernel
theorem dX8_winning_12 : decode cX8_winning 12 = .ok (.goto 14, 3) := by decide +kernel
theorem dX8_winning_15 : decode cX8_winning 15 = .ok (.aload_n 0, 1) := by decide +kernel
theorem dX8_winning_16 : decode cX8_winning 16 = .ok (.getfield 38, 3) := by decide +kernel
theorem dX8_winning_19 : decode cX8_winning 19 = .ok (.aload_n 0, 1) := by decide +kernel
theorem dX8_winning_20 : decode cX8_winning 20 = .ok (.getfield 12, 3) := by decide +kernel
theorem dX8_winning_23 : decode cX8_winning 23 = .ok (.invokevirtual 172, 3) := by decide +kernel
theorem dX8_winning_26 : decode cX8_winning 26 = .ok (.ireturn, 1) := by decide +kernel
set_option maxRecDepth 20000 in
theorem ggX8_value_X0_isOver : GoodIn wsX8_value wsX0_isOver := goodIn_r _ [6, 7, 8, 9, 4, 10, 11, 12, 13, 14, 15, 16, 17, 18, 19, 20, 21, 22, 23, 24, 25, 26, 27, 28, 29, 98, 99, 100, 101, 102, 103, 104, 105, 106, 107, 108, 109, 110, 111, 112, 113] (by decide +kernel) (by decide +kernel)
set_option maxRecDepth 20000 in
theorem gX8_value_X0_isOver_n143 : GoodIn wsX8_value (wsX0_isOver) := ggX8_value_X0_isOver
set_option maxRecDepth 20000 in
theorem ggX8_value_X7_difference : GoodIn wsX8_value wsX7_difference := goodIn_r _ [33, 34, 35, 36, 31, 37, 38, 39, 40, 41, 42, 43, 44, 45, 46, 47, 48, 49, 50, 51, 52, 53, 54, 55, 56, 57, 58, 18, 59, 21, 4, 22, 23, 24, 25, 60, 61, 62, 63, 64, 65, 66, 67, 68, 69, 70, 71, 72, 73, 74, 75, 17, 19, 76, 77, 78, 79, 80, 81, 82, 83, 84, 85, 86, 87, 88, 89, 98, 99, 100, 101, 102, 103, 104, 105, 106, 107, 108, 109, 110, 111, 112, 113, 114, 115, 116, 117, 118, 119, 120, 121] (by decide +kernel) (by decide +kernel)
set_option maxRecDepth 20000 in
theorem gX8_value_X7_difference_n176 : GoodIn wsX8_value (wsX7_difference) := ggX8_value_X7_difference
theorem dX8_value_0 : decode cX8_value 0 = .ok (.aload_n 0, 1) := by decide +kernel
theorem dX8_value_1 : decode cX8_value 1 = .ok (.getfield 12, 3) := by decide +kernel
theorem dX8_value_4 : decode cX8_value 4 = .ok (.invokevirtual 143, 3) := by decide +kernel
theorem dX8_value_7 : decode cX8_value 7 = .ok (.ifCond .eq 8, 3) := by decide +kernel
theorem dX8_value_10 : decode cX8_value 10 = .ok (.bipush (-5), 2) := by decide +kernel
theorem dX8_value_12 : decode cX8_value 12 = .ok (.goto 18, 3) := by decide +kernel
theorem dX8_value_15 : decode cX8_value 15 = .ok (.aload_n 0, 1) := by decide +kernel
theorem dX8_value_16 : decode cX8_value 16 = .ok (.getfield 38, 3) := by decide +kernel
theorem dX8_value_19 : decode cX8_value 19 = .ok (.aload_n 0, 1) := by decide +kernel
theorem dX8_value_20 : decode cX8_value 20 = .ok (.getfield 12, 3) := by decide +kernel
theorem dX8_value_23 : decode cX8_value 23 = .ok (.invokevirtual 176, 3) := by decide +kernel
theorem dX8_value_26 : decode cX8_value 26 = .ok (.sipush 1000, 3) := by decide +kernel
theorem dX8_value_29 : decode cX8_value 29 = .ok (.iadd, 1) := by decide +kernel
theorem dX8_value_30 : decode cX8_value 30 = .ok (.ireturn, 1) := by decide +kernel
set_option maxRecDepth 20000 in
theorem ggX8_best_X0_isOver : GoodIn wsX8_best wsX0_isOver := goodIn_r _ [6, 7, 8, 9, 4, 10, 11, 12, 13, 14, 15, 16, 17, 18, 19, 20, 21, 22, 23, 24, 25, 26, 27, 28, 29, 98, 99, 100, 101, 102, 103, 104, 105, 106, 107, 108, 109, 110, 111, 112, 113] (by decide +kernel) (by decide +kernel)
set_option maxRecDepth 20000 in
theorem gX8_best_X0_isOver_n143 : GoodIn wsX8_best (wsX0_isOver) := ggX8_best_X0_isOver
set_option maxRecDepth 20000 in
theorem ggX8_best_X7_bestMove : GoodIn wsX8_best wsX7_bestMove := goodIn_r _ [33, 34, 35, 36, 37, 31, 38, 39, 40, 41, 42, 43, 44, 45, 46, 47, 48, 49, 50, 51, 52, 53, 54, 55, 56, 57, 58, 18, 59, 21, 4, 22, 23, 24, 25, 60, 61, 62, 63, 64, 17, 19, 65, 66, 67, 68, 69, 70, 71, 72, 73, 74, 75, 76, 77, 78, 79, 80, 81, 82, 83, 84, 85, 86, 87, 88, 89, 98, 99, 100, 101, 102, 103, 104, 105, 106, 107, 108, 109, 110, 111, 112, 113, 114, 115, 116, 117, 118, 119, 120, 121] (by decide +kernel) (by decide +kernel)
set_option maxRecDepth 20000 in
theorem gX8_best_X7_bestMove_n179 : GoodIn wsX8_best (wsX7_bestMove) := ggX8_best_X7_bestMove
theorem dX8_best_0 : decode cX8_best 0 = .ok (.aload_n 0, 1) := by decide +kernel
theorem dX8_best_1 : decode cX8_best 1 = .ok (.getfield 12, 3) := by decide +kernel
theorem dX8_best_4 : decode cX8_best 4 = .ok (.invokevirtual 143, 3) := by decide +kernel
theorem dX8_best_7 : decode cX8_best 7 = .ok (.ifCond .eq 8, 3) := by decide +kernel
theorem dX8_best_10 : decode cX8_best 10 = .ok (.bipush (-5), 2) := by decide +kernel
theorem dX8_best_12 : decode cX8_best 12 = .ok (.goto 14, 3) := by decide +kernel
theorem dX8_best_15 : decode cX8_best 15 = .ok (.aload_n 0, 1) := by decide +kernel
theorem dX8_best_16 : decode cX8_best 16 = .ok (.getfield 38, 3) := by decide +kernel
theorem dX8_best_19 : decode cX8_best 19 = .ok (.aload_n 0, 1) := by decide +kernel
theorem dX8_best_20 : decode cX8_best 20 = .ok (.getfield 12, 3) := by decide +kernel
theorem dX8_best_23 : decode cX8_best 23 = .ok (.invokevirtual 179, 3) := by decide +kernel
theorem dX8_best_26 : decode cX8_best 26 = .ok (.ireturn, 1) := by decide +kernel
set_option maxRecDepth 20000 in
theorem ggX8_grundy_X5_nimber : GoodIn wsX8_grundy wsX5_nimber := goodIn_r _ [6, 7, 8, 9, 10, 4, 11, 12, 13, 14, 15, 16, 17, 18, 19, 20, 21, 22, 41, 42] (by decide +kernel) (by decide +kernel)
set_option maxRecDepth 20000 in
theorem gX8_grundy_X5_nimber_n119 : GoodIn wsX8_grundy (wsX5_nimber) := ggX8_grundy_X5_nimber
theorem dX8_grundy_0 : decode cX8_grundy 0 = .ok (.iload_n 1, 1) := by decide +kernel
theorem dX8_grundy_1 : decode cX8_grundy 1 = .ok (.ifCond .lt 10, 3) := by decide +kernel
theorem dX8_grundy_4 : decode cX8_grundy 4 = .ok (.iload_n 1, 1) := by decide +kernel
theorem dX8_grundy_5 : decode cX8_grundy 5 = .ok (.sipush 200, 3) := by decide +kernel
theorem dX8_grundy_8 : decode cX8_grundy 8 = .ok (.if_icmp .le 6, 3) := by decide +kernel
theorem dX8_grundy_11 : decode cX8_grundy 11 = .ok (.bipush (-2), 2) := by decide +kernel
theorem dX8_grundy_13 : decode cX8_grundy 13 = .ok (.ireturn, 1) := by decide +kernel
theorem dX8_grundy_14 : decode cX8_grundy 14 = .ok (.aload_n 0, 1) := by decide +kernel
theorem dX8_grundy_15 : decode cX8_grundy 15 = .ok (.getfield 45, 3) := by decide +kernel
theorem dX8_grundy_18 : decode cX8_grundy 18 = .ok (.aload_n 0, 1) := by decide +kernel
theorem dX8_grundy_19 : decode cX8_grundy 19 = .ok (.getfield 12, 3) := by decide +kernel
theorem dX8_grundy_22 : decode cX8_grundy 22 = .ok (.getfield 116, 3) := by decide +kernel
theorem dX8_grundy_25 : decode cX8_grundy 25 = .ok (.iload_n 1, 1) := by decide +kernel
theorem dX8_grundy_26 : decode cX8_grundy 26 = .ok (.invokevirtual 119, 3) := by decide +kernel
theorem dX8_grundy_29 : decode cX8_grundy 29 = .ok (.ireturn, 1) := by decide +kernel
set_option maxRecDepth 20000 in
theorem ggX8_period_X5_repeatsFrom : GoodIn wsX8_period wsX5_repeatsFrom := goodIn_r _ [6, 7, 8, 9, 10, 4, 11, 12, 13, 14, 15, 16, 17, 18, 19, 20, 21, 22, 23, 24, 25, 26, 45, 46] (by decide +kernel) (by decide +kernel)
set_option maxRecDepth 20000 in
theorem gX8_period_X5_repeatsFrom_n182 : GoodIn wsX8_period (wsX5_repeatsFrom) := ggX8_period_X5_repeatsFrom
theorem dX8_period_0 : decode cX8_period 0 = .ok (.iload_n 1, 1) := by decide +kernel
theorem dX8_period_1 : decode cX8_period 1 = .ok (.ifCond .eq 11, 3) := by decide +kernel
theorem dX8_period_4 : decode cX8_period 4 = .ok (.iload_n 1, 1) := by decide +kernel
theorem dX8_period_5 : decode cX8_period 5 = .ok (.iconst 1, 1) := by decide +kernel
theorem dX8_period_6 : decode cX8_period 6 = .ok (.if_icmp .eq 6, 3) := by decide +kernel
theorem dX8_period_9 : decode cX8_period 9 = .ok (.bipush (-2), 2) := by decide +kernel
theorem dX8_period_11 : decode cX8_period 11 = .ok (.ireturn, 1) := by decide +kernel
theorem dX8_period_12 : decode cX8_period 12 = .ok (.iconst 1, 1) := by decide +kernel
theorem dX8_period_13 : decode cX8_period 13 = .ok (.istore_n 2, 1) := by decide +kernel
theorem dX8_period_14 : decode cX8_period 14 = .ok (.iload_n 2, 1) := by decide +kernel
theorem dX8_period_15 : decode cX8_period 15 = .ok (.bipush 100, 2) := by decide +kernel
theorem dX8_period_17 : decode cX8_period 17 = .ok (.if_icmp .gt 43, 3) := by decide +kernel
theorem dX8_period_20 : decode cX8_period 20 = .ok (.aload_n 0, 1) := by decide +kernel
theorem dX8_period_21 : decode cX8_period 21 = .ok (.getfield 45, 3) := by decide +kernel
theorem dX8_period_24 : decode cX8_period 24 = .ok (.aload_n 0, 1) := by decide +kernel
theorem dX8_period_25 : decode cX8_period 25 = .ok (.getfield 12, 3) := by decide +kernel
theorem dX8_period_28 : decode cX8_period 28 = .ok (.getfield 116, 3) := by decide +kernel
theorem dX8_period_31 : decode cX8_period 31 = .ok (.iload_n 2, 1) := by decide +kernel
theorem dX8_period_32 : decode cX8_period 32 = .ok (.invokevirtual 182, 3) := by decide +kernel
theorem dX8_period_35 : decode cX8_period 35 = .ok (.istore_n 3, 1) := by decide +kernel
theorem dX8_period_36 : decode cX8_period 36 = .ok (.iload_n 3, 1) := by decide +kernel
theorem dX8_period_37 : decode cX8_period 37 = .ok (.iload_n 2, 1) := by decide +kernel
theorem dX8_period_38 : decode cX8_period 38 = .ok (.iadd, 1) := by decide +kernel
theorem dX8_period_39 : decode cX8_period 39 = .ok (.bipush 100, 2) := by decide +kernel
theorem dX8_period_41 : decode cX8_period 41 = .ok (.if_icmp .gt 13, 3) := by decide +kernel
theorem dX8_period_44 : decode cX8_period 44 = .ok (.iload_n 1, 1) := by decide +kernel
theorem dX8_period_45 : decode cX8_period 45 = .ok (.ifCond .ne 7, 3) := by decide +kernel
theorem dX8_period_48 : decode cX8_period 48 = .ok (.iload_n 2, 1) := by decide +kernel
theorem dX8_period_49 : decode cX8_period 49 = .ok (.goto 4, 3) := by decide +kernel
theorem dX8_period_52 : decode cX8_period 52 = .ok (.iload_n 3, 1) := by decide +kernel
theorem dX8_period_53 : decode cX8_period 53 = .ok (.ireturn, 1) := by decide +kernel
theorem dX8_period_54 : decode cX8_period 54 = .ok (.iinc 2 1, 3) := by decide +kernel
theorem dX8_period_57 : decode cX8_period 57 = .ok (.goto (-43), 3) := by decide +kernel
theorem dX8_period_60 : decode cX8_period 60 = .ok (.bipush (-6), 2) := by decide +kernel
theorem dX8_period_62 : decode cX8_period 62 = .ok (.ireturn, 1) := by decide +kernel
set_option maxRecDepth 20000 in
theorem ggX8_drawn_X0_isOver : GoodIn wsX8_drawn wsX0_isOver := goodIn_r _ [6, 7, 8, 9, 4, 10, 11, 12, 13, 14, 15, 16, 17, 18, 19, 20, 21, 22, 23, 24, 25, 26, 27, 28, 29, 107, 108, 109, 110, 111, 112, 113, 114, 115, 116, 117, 118, 119, 120, 121, 122] (by decide +kernel) (by decide +kernel)
set_option maxRecDepth 20000 in
theorem gX8_drawn_X0_isOver_n143 : GoodIn wsX8_drawn (wsX0_isOver) := ggX8_drawn_X0_isOver
set_option maxRecDepth 20000 in
theorem ggX8_drawn_X8_gamesWonByDraws : GoodIn wsX8_drawn wsX8_gamesWonByDraws := goodIn_r _ [33, 34, 2, 1, 35, 4, 36, 37, 13, 38, 12, 39, 24, 25, 14, 40, 15, 11, 41, 42, 43, 44, 45, 46, 47, 48, 49, 50, 51, 52, 53, 54, 3, 5, 6, 7, 8, 9, 10, 16, 17, 18, 19, 20, 21, 22, 23, 26, 27, 28, 29, 55, 56, 57, 58, 59, 60, 61, 62, 63, 64, 65, 66, 67, 68, 69, 70, 71, 72, 73, 74, 75, 76, 77, 78, 79, 80, 81, 82, 83, 84, 85, 86, 87, 88, 89, 90, 91, 92, 93, 94, 99, 100, 101, 102, 103, 104, 105, 106, 107, 108, 109, 110, 111, 112, 113, 114, 115, 116, 117, 118, 119, 120, 121, 122] (by decide +kernel) (by decide +kernel)
set_option maxRecDepth 20000 in
theorem gX8_drawn_X8_gamesWonByDraws : GoodIn wsX8_drawn (wsV RX8 186 RX8 yX8_gamesWonByDraws wsX8_gamesWonByDraws) := goodIn_app (goodIn_of _ (by decide +kernel)) ggX8_drawn_X8_gamesWonByDraws
set_option maxRecDepth 20000 in
theorem ggX8_drawn_X8_bitsOfShare : GoodIn wsX8_drawn wsX8_bitsOfShare := goodIn_r _ [97, 98] (by decide +kernel) (by decide +kernel)
set_option maxRecDepth 20000 in
theorem gX8_drawn_X8_bitsOfShare : GoodIn wsX8_drawn (va_wsS RX8 189 yX8_bitsOfShare wsX8_bitsOfShare) := goodIn_app (goodIn_of _ (by decide +kernel)) ggX8_drawn_X8_bitsOfShare
theorem dX8_drawn_0 : decode cX8_drawn 0 = .ok (.iload_n 1, 1) := by decide +kernel
theorem dX8_drawn_1 : decode cX8_drawn 1 = .ok (.iconst 1, 1) := by decide +kernel
theorem dX8_drawn_2 : decode cX8_drawn 2 = .ok (.if_icmp .lt 20, 3) := by decide +kernel
theorem dX8_drawn_5 : decode cX8_drawn 5 = .ok (.iload_n 1, 1) := by decide +kernel
theorem dX8_drawn_6 : decode cX8_drawn 6 = .ok (.sipush 200, 3) := by decide +kernel
theorem dX8_drawn_9 : decode cX8_drawn 9 = .ok (.if_icmp .gt 13, 3) := by decide +kernel
theorem dX8_drawn_12 : decode cX8_drawn 12 = .ok (.iload_n 2, 1) := by decide +kernel
theorem dX8_drawn_13 : decode cX8_drawn 13 = .ok (.ifCond .lt 9, 3) := by decide +kernel
theorem dX8_drawn_16 : decode cX8_drawn 16 = .ok (.iload_n 2, 1) := by decide +kernel
theorem dX8_drawn_17 : decode cX8_drawn 17 = .ok (.ldc 185, 2) := by decide +kernel
theorem dX8_drawn_19 : decode cX8_drawn 19 = .ok (.if_icmp .lt 6, 3) := by decide +kernel
theorem dX8_drawn_22 : decode cX8_drawn 22 = .ok (.bipush (-2), 2) := by decide +kernel
theorem dX8_drawn_24 : decode cX8_drawn 24 = .ok (.ireturn, 1) := by decide +kernel
theorem dX8_drawn_25 : decode cX8_drawn 25 = .ok (.aload_n 0, 1) := by decide +kernel
theorem dX8_drawn_26 : decode cX8_drawn 26 = .ok (.getfield 12, 3) := by decide +kernel
theorem dX8_drawn_29 : decode cX8_drawn 29 = .ok (.invokevirtual 143, 3) := by decide +kernel
theorem dX8_drawn_32 : decode cX8_drawn 32 = .ok (.ifCond .eq 8, 3) := by decide +kernel
theorem dX8_drawn_35 : decode cX8_drawn 35 = .ok (.bipush (-5), 2) := by decide +kernel
theorem dX8_drawn_37 : decode cX8_drawn 37 = .ok (.goto 13, 3) := by decide +kernel
theorem dX8_drawn_40 : decode cX8_drawn 40 = .ok (.aload_n 0, 1) := by decide +kernel
theorem dX8_drawn_41 : decode cX8_drawn 41 = .ok (.iload_n 1, 1) := by decide +kernel
theorem dX8_drawn_42 : decode cX8_drawn 42 = .ok (.iload_n 2, 1) := by decide +kernel
theorem dX8_drawn_43 : decode cX8_drawn 43 = .ok (.invokevirtual 186, 3) := by decide +kernel
theorem dX8_drawn_46 : decode cX8_drawn 46 = .ok (.iload_n 1, 1) := by decide +kernel
theorem dX8_drawn_47 : decode cX8_drawn 47 = .ok (.invokestatic 189, 3) := by decide +kernel
theorem dX8_drawn_50 : decode cX8_drawn 50 = .ok (.ireturn, 1) := by decide +kernel
set_option maxRecDepth 20000 in
theorem ggX8_put_X2_charactersIn : GoodIn wsX8_put wsX2_charactersIn := goodIn_r _ [4, 5, 6, 3, 7, 8] (by decide +kernel) (by decide +kernel)
set_option maxRecDepth 20000 in
theorem gX8_put_X2_charactersIn_n192 : GoodIn wsX8_put (wsX2_charactersIn) := ggX8_put_X2_charactersIn
set_option maxRecDepth 20000 in
theorem ggX8_put_X2_append : GoodIn wsX8_put wsX2_append := goodIn_r _ [11, 12, 13, 5, 6, 3, 7, 8, 22, 23] (by decide +kernel) (by decide +kernel)
set_option maxRecDepth 20000 in
theorem gX8_put_X2_append_n196 : GoodIn wsX8_put (wsX2_append) := ggX8_put_X2_append
theorem dX8_put_0 : decode cX8_put 0 = .ok (.lload_n 1, 1) := by decide +kernel
theorem dX8_put_1 : decode cX8_put 1 = .ok (.invokestatic 192, 3) := by decide +kernel
theorem dX8_put_4 : decode cX8_put 4 = .ok (.istore_n 3, 1) := by decide +kernel
theorem dX8_put_5 : decode cX8_put 5 = .ok (.iload_n 3, 1) := by decide +kernel
theorem dX8_put_6 : decode cX8_put 6 = .ok (.ifCond .ne 6, 3) := by decide +kernel
theorem dX8_put_9 : decode cX8_put 9 = .ok (.bipush (-2), 2) := by decide +kernel
theorem dX8_put_11 : decode cX8_put 11 = .ok (.ireturn, 1) := by decide +kernel
theorem dX8_put_12 : decode cX8_put 12 = .ok (.aload_n 0, 1) := by decide +kernel
theorem dX8_put_13 : decode cX8_put 13 = .ok (.getfield 52, 3) := by decide +kernel
theorem dX8_put_16 : decode cX8_put 16 = .ok (.getfield 159, 3) := by decide +kernel
theorem dX8_put_19 : decode cX8_put 19 = .ok (.iload_n 3, 1) := by decide +kernel
theorem dX8_put_20 : decode cX8_put 20 = .ok (.iadd, 1) := by decide +kernel
theorem dX8_put_21 : decode cX8_put 21 = .ok (.bipush 80, 2) := by decide +kernel
theorem dX8_put_23 : decode cX8_put 23 = .ok (.if_icmp .le 6, 3) := by decide +kernel
theorem dX8_put_26 : decode cX8_put 26 = .ok (.bipush (-4), 2) := by decide +kernel
theorem dX8_put_28 : decode cX8_put 28 = .ok (.ireturn, 1) := by decide +kernel
theorem dX8_put_29 : decode cX8_put 29 = .ok (.aload_n 0, 1) := by decide +kernel
theorem dX8_put_30 : decode cX8_put 30 = .ok (.getfield 52, 3) := by decide +kernel
theorem dX8_put_33 : decode cX8_put 33 = .ok (.lload_n 1, 1) := by decide +kernel
theorem dX8_put_34 : decode cX8_put 34 = .ok (.iload_n 3, 1) := by decide +kernel
theorem dX8_put_35 : decode cX8_put 35 = .ok (.invokevirtual 196, 3) := by decide +kernel
theorem dX8_put_38 : decode cX8_put 38 = .ok (.aload_n 0, 1) := by decide +kernel
theorem dX8_put_39 : decode cX8_put 39 = .ok (.getfield 52, 3) := by decide +kernel
theorem dX8_put_42 : decode cX8_put 42 = .ok (.getfield 159, 3) := by decide +kernel
theorem dX8_put_45 : decode cX8_put 45 = .ok (.ireturn, 1) := by decide +kernel
theorem dX8_wipe_0 : decode cX8_wipe 0 = .ok (.aload_n 0, 1) := by decide +kernel
theorem dX8_wipe_1 : decode cX8_wipe 1 = .ok (.getfield 52, 3) := by decide +kernel
theorem dX8_wipe_4 : decode cX8_wipe 4 = .ok (.getfield 159, 3) := by decide +kernel
theorem dX8_wipe_7 : decode cX8_wipe 7 = .ok (.istore_n 1, 1) := by decide +kernel
theorem dX8_wipe_8 : decode cX8_wipe 8 = .ok (.aload_n 0, 1) := by decide +kernel
theorem dX8_wipe_9 : decode cX8_wipe 9 = .ok (.getfield 52, 3) := by decide +kernel
theorem dX8_wipe_12 : decode cX8_wipe 12 = .ok (.iconst 0, 1) := by decide +kernel
theorem dX8_wipe_13 : decode cX8_wipe 13 = .ok (.putfield 159, 3) := by decide +kernel
theorem dX8_wipe_16 : decode cX8_wipe 16 = .ok (.iload_n 1, 1) := by decide +kernel
theorem dX8_wipe_17 : decode cX8_wipe 17 = .ok (.ireturn, 1) := by decide +kernel
set_option maxRecDepth 20000 in
theorem ggX8_fault_X2_faultIndex : GoodIn wsX8_fault wsX2_faultIndex := goodIn_r _ [5, 6, 7, 8, 9, 3, 10, 11, 12, 13, 14, 15, 16, 17, 18, 19, 20, 21, 22, 23, 32, 33] (by decide +kernel) (by decide +kernel)
set_option maxRecDepth 20000 in
theorem gX8_fault_X2_faultIndex_n200 : GoodIn wsX8_fault (wsX2_faultIndex) := ggX8_fault_X2_faultIndex
theorem dX8_fault_0 : decode cX8_fault 0 = .ok (.aload_n 0, 1) := by decide +kernel
theorem dX8_fault_1 : decode cX8_fault 1 = .ok (.getfield 52, 3) := by decide +kernel
theorem dX8_fault_4 : decode cX8_fault 4 = .ok (.invokevirtual 200, 3) := by decide +kernel
theorem dX8_fault_7 : decode cX8_fault 7 = .ok (.ireturn, 1) := by decide +kernel
set_option maxRecDepth 20000 in
theorem ggX8_carryOut_X2_faultIndex : GoodIn wsX8_carryOut wsX2_faultIndex := goodIn_r _ [7, 8, 9, 10, 11, 5, 12, 13, 14, 15, 16, 17, 18, 19, 20, 21, 22, 23, 24, 25, 218, 219] (by decide +kernel) (by decide +kernel)
set_option maxRecDepth 20000 in
theorem gX8_carryOut_X2_faultIndex_n200 : GoodIn wsX8_carryOut (wsX2_faultIndex) := ggX8_carryOut_X2_faultIndex
set_option maxRecDepth 20000 in
theorem ggX8_carryOut_X0_copyFrom : GoodIn wsX8_carryOut wsX0_copyFrom := goodIn_r _ [29, 30, 31, 32, 33, 34, 35, 36, 37, 38, 39, 40, 41, 42, 43, 44, 45, 46, 47, 48, 49, 50, 51, 52, 53, 220, 221, 222, 223, 224, 225, 226, 227, 228, 229, 230, 231, 232, 233, 234, 235] (by decide +kernel) (by decide +kernel)
set_option maxRecDepth 20000 in
theorem gX8_carryOut_X0_copyFrom_n57 : GoodIn wsX8_carryOut (wsX0_copyFrom) := ggX8_carryOut_X0_copyFrom
set_option maxRecDepth 20000 in
theorem ggX8_carryOut_X2_orderBeginsAt : GoodIn wsX8_carryOut wsX2_orderBeginsAt := goodIn_r _ [56, 9, 10, 11, 5, 12, 8, 13, 218, 219] (by decide +kernel) (by decide +kernel)
set_option maxRecDepth 20000 in
theorem gX8_carryOut_X2_orderBeginsAt_n203 : GoodIn wsX8_carryOut (wsX2_orderBeginsAt) := ggX8_carryOut_X2_orderBeginsAt
set_option maxRecDepth 20000 in
theorem ggX8_carryOut_X8_carryOutOrder : GoodIn wsX8_carryOut wsX8_carryOutOrder := goodIn_r _ [61, 1, 10, 5, 11, 12, 8, 13, 62, 63, 64, 60, 65, 66, 67, 68, 9, 69, 70, 71, 72, 3, 73, 41, 74, 75, 44, 45, 46, 47, 76, 77, 78, 79, 80, 27, 81, 82, 33, 32, 83, 84, 85, 86, 87, 88, 89, 90, 91, 92, 39, 30, 36, 38, 93, 94, 95, 96, 97, 98, 99, 34, 35, 100, 101, 102, 103, 104, 105, 106, 107, 108, 109, 110, 111, 112, 113, 37, 114, 115, 116, 117, 118, 119, 120, 121, 122, 123, 124, 125, 126, 127, 128, 129, 130, 131, 132, 133, 134, 135, 136, 137, 138, 139, 140, 141, 142, 143, 144, 145, 146, 147, 148, 149, 150, 151, 152, 153, 154, 155, 156, 157, 158, 159, 160, 161, 162, 163, 164, 165, 166, 167, 168, 169, 170, 171, 172, 173, 174, 175, 176, 177, 178, 179, 180, 181, 182, 183, 184, 185, 186, 187, 188, 189, 190, 191, 192, 193, 194, 210, 211, 212, 213, 214, 215, 216, 217, 218, 219, 220, 221, 222, 223, 224, 225, 226, 227, 228, 229, 230, 231, 232, 233, 234, 235, 236, 237, 238, 239, 240, 241, 242, 243] (by decide +kernel) (by decide +kernel)
set_option maxRecDepth 20000 in
theorem gX8_carryOut_X8_carryOutOrder : GoodIn wsX8_carryOut (wsV RX8 206 RX8 yX8_carryOutOrder wsX8_carryOutOrder) := goodIn_app (goodIn_of _ (by decide +kernel)) ggX8_carryOut_X8_carryOutOrder
set_option maxRecDepth 20000 in
theorem ggX8_carryOut_X8_recorded : GoodIn wsX8_carryOut wsX8_recorded := goodIn_r _ [198, 199, 2, 200, 201, 202, 203, 204, 205, 206, 207, 208, 209, 26, 27, 28, 29, 30, 31, 32, 33, 34, 35, 36, 37, 38, 39, 40, 41, 42, 43, 44, 45, 46, 47, 48, 49, 50, 51, 52, 53, 210, 211, 212, 213, 214, 215, 216, 217, 244, 245, 220, 221, 222, 223, 224, 225, 226, 227, 228, 229, 230, 231, 232, 233, 234, 235] (by decide +kernel) (by decide +kernel)
set_option maxRecDepth 20000 in
theorem gX8_carryOut_X8_recorded : GoodIn wsX8_carryOut (wsV RX8 65 RX8 yX8_recorded wsX8_recorded) := goodIn_app (goodIn_of _ (by decide +kernel)) ggX8_carryOut_X8_recorded
theorem dX8_carryOut_0 : decode cX8_carryOut 0 = .ok (.aload_n 0, 1) := by decide +kernel
theorem dX8_carryOut_1 : decode cX8_carryOut 1 = .ok (.getfield 52, 3) := by decide +kernel
theorem dX8_carryOut_4 : decode cX8_carryOut 4 = .ok (.invokevirtual 200, 3) := by decide +kernel
theorem dX8_carryOut_7 : decode cX8_carryOut 7 = .ok (.bipush (-6), 2) := by decide +kernel
