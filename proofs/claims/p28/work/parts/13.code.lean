theorem dJ9_max_7cf53_6 : decode cJ9_max_7cf53 6 = .ok (.goto 4, 3) := by decide +kernel
theorem dJ9_max_7cf53_9 : decode cJ9_max_7cf53 9 = .ok (.iload_n 1, 1) := by decide +kernel
theorem dJ9_max_7cf53_10 : decode cJ9_max_7cf53 10 = .ok (.ireturn, 1) := by decide +kernel
theorem dJ7_fill_53178_0 : decode cJ7_fill_53178 0 = .ok (.iconst 0, 1) := by decide +kernel
theorem dJ7_fill_53178_1 : decode cJ7_fill_53178 1 = .ok (.istore_n 2, 1) := by decide +kernel
theorem dJ7_fill_53178_2 : decode cJ7_fill_53178 2 = .ok (.aload_n 0, 1) := by decide +kernel
theorem dJ7_fill_53178_3 : decode cJ7_fill_53178 3 = .ok (.arraylength, 1) := by decide +kernel
theorem dJ7_fill_53178_4 : decode cJ7_fill_53178 4 = .ok (.istore_n 3, 1) := by decide +kernel
theorem dJ7_fill_53178_5 : decode cJ7_fill_53178 5 = .ok (.iload_n 2, 1) := by decide +kernel
theorem dJ7_fill_53178_6 : decode cJ7_fill_53178 6 = .ok (.iload_n 3, 1) := by decide +kernel
theorem dJ7_fill_53178_7 : decode cJ7_fill_53178 7 = .ok (.if_icmp .ge 13, 3) := by decide +kernel
theorem dJ7_fill_53178_10 : decode cJ7_fill_53178 10 = .ok (.aload_n 0, 1) := by decide +kernel
theorem dJ7_fill_53178_11 : decode cJ7_fill_53178 11 = .ok (.iload_n 2, 1) := by decide +kernel
theorem dJ7_fill_53178_12 : decode cJ7_fill_53178 12 = .ok (.iload_n 1, 1) := by decide +kernel
theorem dJ7_fill_53178_13 : decode cJ7_fill_53178 13 = .ok (.iastore, 1) := by decide +kernel
theorem dJ7_fill_53178_14 : decode cJ7_fill_53178 14 = .ok (.iinc 2 1, 3) := by decide +kernel
theorem dJ7_fill_53178_17 : decode cJ7_fill_53178 17 = .ok (.goto (-12), 3) := by decide +kernel
theorem dJ7_fill_53178_20 : decode cJ7_fill_53178 20 = .ok (.return_, 1) := by decide +kernel
theorem dL_cell_0 : decode cL_cell 0 = .ok (.iload_n 1, 1) := by decide +kernel
theorem dL_cell_1 : decode cL_cell 1 = .ok (.aload_n 0, 1) := by decide +kernel
theorem dL_cell_2 : decode cL_cell 2 = .ok (.arraylength, 1) := by decide +kernel
theorem dL_cell_3 : decode cL_cell 3 = .ok (.if_icmp .ge 9, 3) := by decide +kernel
theorem dL_cell_6 : decode cL_cell 6 = .ok (.aload_n 0, 1) := by decide +kernel
theorem dL_cell_7 : decode cL_cell 7 = .ok (.iload_n 1, 1) := by decide +kernel
theorem dL_cell_8 : decode cL_cell 8 = .ok (.iaload, 1) := by decide +kernel
theorem dL_cell_9 : decode cL_cell 9 = .ok (.goto 15, 3) := by decide +kernel
theorem dL_cell_12 : decode cL_cell 12 = .ok (.sipush 7919, 3) := by decide +kernel
theorem dL_cell_15 : decode cL_cell 15 = .ok (.iload_n 1, 1) := by decide +kernel
theorem dL_cell_16 : decode cL_cell 16 = .ok (.iconst 3, 1) := by decide +kernel
theorem dL_cell_17 : decode cL_cell 17 = .ok (.iadd, 1) := by decide +kernel
theorem dL_cell_18 : decode cL_cell 18 = .ok (.imul, 1) := by decide +kernel
theorem dL_cell_19 : decode cL_cell 19 = .ok (.iload_n 1, 1) := by decide +kernel
theorem dL_cell_20 : decode cL_cell 20 = .ok (.bipush 11, 2) := by decide +kernel
theorem dL_cell_22 : decode cL_cell 22 = .ok (.iadd, 1) := by decide +kernel
theorem dL_cell_23 : decode cL_cell 23 = .ok (.imul, 1) := by decide +kernel
theorem dL_cell_24 : decode cL_cell 24 = .ok (.ireturn, 1) := by decide +kernel
theorem dL_low_0 : decode cL_low 0 = .ok (.iload_n 0, 1) := by decide +kernel
theorem dL_low_1 : decode cL_low 1 = .ok (.ldc 7, 2) := by decide +kernel
theorem dL_low_3 : decode cL_low 3 = .ok (.iand, 1) := by decide +kernel
theorem dL_low_4 : decode cL_low 4 = .ok (.iload_n 1, 1) := by decide +kernel
theorem dL_low_5 : decode cL_low 5 = .ok (.irem, 1) := by decide +kernel
theorem dL_low_6 : decode cL_low 6 = .ok (.ireturn, 1) := by decide +kernel
set_option maxRecDepth 20000 in
theorem ggL_told_X8_count : GoodIn wsL_told wsX8_count := goodIn_r _ [7, 8, 9, 10, 11, 12, 13, 14, 15, 16, 17, 18, 19, 20, 21, 22, 23, 24, 25, 26, 27, 28, 6, 29, 30, 31, 32, 33, 34, 35, 36, 37, 38, 39, 40, 82, 83, 84, 85, 86, 87, 88, 89, 90, 91, 92, 93, 94, 95, 96, 97, 98, 99, 100, 101, 102, 103, 104, 105, 106, 107, 108, 109] (by decide +kernel) (by decide +kernel)
set_option maxRecDepth 20000 in
theorem gL_told_X8_count : GoodIn wsL_told (wsV RL 12 RX8 yX8_count wsX8_count) := goodIn_app (goodIn_of _ (by decide +kernel)) ggL_told_X8_count
set_option maxRecDepth 20000 in
theorem ggL_told_X8_ofPile : GoodIn wsL_told wsX8_ofPile := goodIn_r _ [44, 8, 45, 46, 12, 47, 48, 49, 15, 50, 51, 52, 53, 54, 55, 56, 57, 58, 59, 60, 61, 62, 63, 64, 6, 65, 66, 67, 68, 82, 83, 84, 85, 86, 87, 88, 89, 90, 91, 92, 93, 94, 95, 96, 97, 98, 99, 104, 105, 106, 107, 110, 111] (by decide +kernel) (by decide +kernel)
set_option maxRecDepth 20000 in
theorem gL_told_X8_ofPile : GoodIn wsL_told (wsV RL 18 RX8 yX8_ofPile wsX8_ofPile) := goodIn_app (goodIn_of _ (by decide +kernel)) ggL_told_X8_ofPile
set_option maxRecDepth 20000 in
theorem ggL_told_X8_ofPlayer : GoodIn wsL_told wsX8_ofPlayer := goodIn_r _ [72, 8, 31, 12, 32, 33, 34, 35, 73, 74, 75, 76, 30, 40, 16, 17, 18, 19, 20, 21, 22, 23, 15, 24, 25, 26, 27, 28, 6, 29, 36, 11, 13, 14, 77, 37, 38, 39, 82, 83, 84, 85, 86, 87, 88, 89, 108, 109, 90, 91, 92, 93, 94, 95, 96, 97, 98, 99, 104, 105, 106, 107] (by decide +kernel) (by decide +kernel)
set_option maxRecDepth 20000 in
theorem gL_told_X8_ofPlayer : GoodIn wsL_told (wsV RL 22 RX8 yX8_ofPlayer wsX8_ofPlayer) := goodIn_app (goodIn_of _ (by decide +kernel)) ggL_told_X8_ofPlayer
set_option maxRecDepth 20000 in
theorem ggL_told_X8_moves : GoodIn wsL_told wsX8_moves := goodIn_r _ [81, 8, 20, 12, 21, 22, 23, 15, 24, 25, 26, 27, 28, 6, 29, 30, 31, 32, 33, 34, 35, 36, 11, 13, 14, 82, 83, 84, 85, 86, 87, 88, 89, 90, 91, 92, 93, 94, 95, 96, 97, 98, 99, 104, 105, 106, 107, 108, 109] (by decide +kernel) (by decide +kernel)
set_option maxRecDepth 20000 in
theorem gL_told_X8_moves : GoodIn wsL_told (wsV RL 25 RX8 yX8_moves wsX8_moves) := goodIn_app (goodIn_of _ (by decide +kernel)) ggL_told_X8_moves
theorem dL_told_0 : decode cL_told 0 = .ok (.ldc2_w 8, 3) := by decide +kernel
theorem dL_told_3 : decode cL_told 3 = .ok (.lstore_n 1, 1) := by decide +kernel
theorem dL_told_4 : decode cL_told 4 = .ok (.iconst 0, 1) := by decide +kernel
theorem dL_told_5 : decode cL_told 5 = .ok (.istore_n 3, 1) := by decide +kernel
theorem dL_told_6 : decode cL_told 6 = .ok (.iload_n 3, 1) := by decide +kernel
theorem dL_told_7 : decode cL_told 7 = .ok (.bipush 9, 2) := by decide +kernel
theorem dL_told_9 : decode cL_told 9 = .ok (.if_icmp .ge 22, 3) := by decide +kernel
theorem dL_told_12 : decode cL_told 12 = .ok (.ldc2_w 10, 3) := by decide +kernel
theorem dL_told_15 : decode cL_told 15 = .ok (.lload_n 1, 1) := by decide +kernel
theorem dL_told_16 : decode cL_told 16 = .ok (.lmul, 1) := by decide +kernel
theorem dL_told_17 : decode cL_told 17 = .ok (.aload_n 0, 1) := by decide +kernel
theorem dL_told_18 : decode cL_told 18 = .ok (.iload_n 3, 1) := by decide +kernel
theorem dL_told_19 : decode cL_told 19 = .ok (.invokevirtual 12, 3) := by decide +kernel
theorem dL_told_22 : decode cL_told 22 = .ok (.i2l, 1) := by decide +kernel
theorem dL_told_23 : decode cL_told 23 = .ok (.ladd, 1) := by decide +kernel
theorem dL_told_24 : decode cL_told 24 = .ok (.lstore_n 1, 1) := by decide +kernel
theorem dL_told_25 : decode cL_told 25 = .ok (.iinc 3 1, 3) := by decide +kernel
theorem dL_told_28 : decode cL_told 28 = .ok (.goto (-22), 3) := by decide +kernel
theorem dL_told_31 : decode cL_told 31 = .ok (.iconst 0, 1) := by decide +kernel
theorem dL_told_32 : decode cL_told 32 = .ok (.istore_n 3, 1) := by decide +kernel
theorem dL_told_33 : decode cL_told 33 = .ok (.iload_n 3, 1) := by decide +kernel
theorem dL_told_34 : decode cL_told 34 = .ok (.aload_n 0, 1) := by decide +kernel
theorem dL_told_35 : decode cL_told 35 = .ok (.iconst 0, 1) := by decide +kernel
theorem dL_told_36 : decode cL_told 36 = .ok (.invokevirtual 12, 3) := by decide +kernel
theorem dL_told_39 : decode cL_told 39 = .ok (.if_icmp .ge 39, 3) := by decide +kernel
theorem dL_told_42 : decode cL_told 42 = .ok (.iconst 0, 1) := by decide +kernel
theorem dL_told_43 : decode cL_told 43 = .ok (.istore 4, 2) := by decide +kernel
theorem dL_told_45 : decode cL_told 45 = .ok (.iload 4, 2) := by decide +kernel
theorem dL_told_47 : decode cL_told 47 = .ok (.iconst 5, 1) := by decide +kernel
theorem dL_told_48 : decode cL_told 48 = .ok (.if_icmp .ge 24, 3) := by decide +kernel
theorem dL_told_51 : decode cL_told 51 = .ok (.ldc2_w 10, 3) := by decide +kernel
theorem dL_told_54 : decode cL_told 54 = .ok (.lload_n 1, 1) := by decide +kernel
theorem dL_told_55 : decode cL_told 55 = .ok (.lmul, 1) := by decide +kernel
theorem dL_told_56 : decode cL_told 56 = .ok (.aload_n 0, 1) := by decide +kernel
theorem dL_told_57 : decode cL_told 57 = .ok (.iload_n 3, 1) := by decide +kernel
theorem dL_told_58 : decode cL_told 58 = .ok (.iload 4, 2) := by decide +kernel
theorem dL_told_60 : decode cL_told 60 = .ok (.invokevirtual 18, 3) := by decide +kernel
theorem dL_told_63 : decode cL_told 63 = .ok (.i2l, 1) := by decide +kernel
theorem dL_told_64 : decode cL_told 64 = .ok (.ladd, 1) := by decide +kernel
theorem dL_told_65 : decode cL_told 65 = .ok (.lstore_n 1, 1) := by decide +kernel
theorem dL_told_66 : decode cL_told 66 = .ok (.iinc 4 1, 3) := by decide +kernel
theorem dL_told_69 : decode cL_told 69 = .ok (.goto (-24), 3) := by decide +kernel
theorem dL_told_72 : decode cL_told 72 = .ok (.iinc 3 1, 3) := by decide +kernel
theorem dL_told_75 : decode cL_told 75 = .ok (.goto (-42), 3) := by decide +kernel
theorem dL_told_78 : decode cL_told 78 = .ok (.iconst 0, 1) := by decide +kernel
theorem dL_told_79 : decode cL_told 79 = .ok (.istore_n 3, 1) := by decide +kernel
theorem dL_told_80 : decode cL_told 80 = .ok (.iload_n 3, 1) := by decide +kernel
theorem dL_told_81 : decode cL_told 81 = .ok (.bipush 6, 2) := by decide +kernel
theorem dL_told_83 : decode cL_told 83 = .ok (.if_icmp .ge 27, 3) := by decide +kernel
theorem dL_told_86 : decode cL_told 86 = .ok (.ldc2_w 10, 3) := by decide +kernel
theorem dL_told_89 : decode cL_told 89 = .ok (.lload_n 1, 1) := by decide +kernel
theorem dL_told_90 : decode cL_told 90 = .ok (.lmul, 1) := by decide +kernel
theorem dL_told_91 : decode cL_told 91 = .ok (.aload_n 0, 1) := by decide +kernel
theorem dL_told_92 : decode cL_told 92 = .ok (.iload_n 3, 1) := by decide +kernel
theorem dL_told_93 : decode cL_told 93 = .ok (.iconst 3, 1) := by decide +kernel
theorem dL_told_94 : decode cL_told 94 = .ok (.idiv, 1) := by decide +kernel
theorem dL_told_95 : decode cL_told 95 = .ok (.iload_n 3, 1) := by decide +kernel
theorem dL_told_96 : decode cL_told 96 = .ok (.iconst 3, 1) := by decide +kernel
theorem dL_told_97 : decode cL_told 97 = .ok (.irem, 1) := by decide +kernel
theorem dL_told_98 : decode cL_told 98 = .ok (.invokevirtual 22, 3) := by decide +kernel
theorem dL_told_101 : decode cL_told 101 = .ok (.i2l, 1) := by decide +kernel
theorem dL_told_102 : decode cL_told 102 = .ok (.ladd, 1) := by decide +kernel
theorem dL_told_103 : decode cL_told 103 = .ok (.lstore_n 1, 1) := by decide +kernel
theorem dL_told_104 : decode cL_told 104 = .ok (.iinc 3 1, 3) := by decide +kernel
theorem dL_told_107 : decode cL_told 107 = .ok (.goto (-27), 3) := by decide +kernel
theorem dL_told_110 : decode cL_told 110 = .ok (.ldc2_w 10, 3) := by decide +kernel
theorem dL_told_113 : decode cL_told 113 = .ok (.lload_n 1, 1) := by decide +kernel
theorem dL_told_114 : decode cL_told 114 = .ok (.lmul, 1) := by decide +kernel
theorem dL_told_115 : decode cL_told 115 = .ok (.aload_n 0, 1) := by decide +kernel
theorem dL_told_116 : decode cL_told 116 = .ok (.invokevirtual 25, 3) := by decide +kernel
theorem dL_told_119 : decode cL_told 119 = .ok (.i2l, 1) := by decide +kernel
theorem dL_told_120 : decode cL_told 120 = .ok (.ladd, 1) := by decide +kernel
theorem dL_told_121 : decode cL_told 121 = .ok (.lreturn, 1) := by decide +kernel
set_option maxRecDepth 20000 in
theorem ggL_act_X8_count : GoodIn wsL_act wsX8_count := goodIn_r _ [5, 6, 7, 8, 9, 10, 11, 12, 13, 14, 15, 16, 17, 18, 19, 20, 21, 22, 23, 24, 25, 26, 4, 27, 28, 29, 30, 31, 32, 33, 34, 35, 36, 37, 38, 227, 228, 229, 230, 231, 232, 233, 234, 235, 236, 237, 238, 239, 240, 241, 242, 243, 244, 245, 246, 247, 248, 249, 250, 251, 252, 253, 254] (by decide +kernel) (by decide +kernel)
set_option maxRecDepth 20000 in
theorem gL_act_X8_count : GoodIn wsL_act (wsV RL 12 RX8 yX8_count wsX8_count) := goodIn_app (goodIn_of _ (by decide +kernel)) ggL_act_X8_count
set_option maxRecDepth 20000 in
theorem ggL_act_L_low : GoodIn wsL_act wsL_low := goodIn_r _ [42, 43] (by decide +kernel) (by decide +kernel)
set_option maxRecDepth 20000 in
theorem gL_act_L_low : GoodIn wsL_act (va_wsS RL 29 yL_low wsL_low) := goodIn_app (goodIn_of _ (by decide +kernel)) ggL_act_L_low
set_option maxRecDepth 20000 in
theorem ggL_act_X8_pile : GoodIn wsL_act wsX8_pile := goodIn_r _ [47, 48, 6, 49, 10, 50, 51, 22, 52, 13, 53, 32, 33, 23, 54, 24, 21, 55, 56, 57, 58, 59, 60, 61, 62, 63, 64, 65, 66, 67, 68, 69, 70, 71, 4, 72, 73, 74, 75, 76, 77, 78, 79, 8, 80, 81, 82, 83, 84, 85, 86, 87, 88, 89, 227, 228, 229, 230, 231, 232, 233, 234, 235, 236, 237, 238, 239, 240, 241, 242, 243, 244, 249, 250, 251, 252, 253, 254, 247, 248] (by decide +kernel) (by decide +kernel)
set_option maxRecDepth 20000 in
theorem gL_act_X8_pile : GoodIn wsL_act (wsV RL 34 RX8 yX8_pile wsX8_pile) := goodIn_app (goodIn_of _ (by decide +kernel)) ggL_act_X8_pile
set_option maxRecDepth 20000 in
theorem ggL_act_X8_set : GoodIn wsL_act wsX8_set := goodIn_r _ [93, 48, 6, 49, 10, 50, 51, 22, 52, 13, 53, 32, 33, 23, 54, 24, 21, 55, 56, 57, 58, 59, 60, 61, 62, 63, 64, 65, 66, 67, 68, 94, 95, 96, 4, 97, 76, 77, 78, 79, 8, 80, 81, 82, 83, 84, 85, 86, 87, 88, 89, 227, 228, 229, 230, 231, 232, 233, 234, 235, 236, 237, 238, 239, 240, 241, 242, 243, 244, 249, 250, 251, 252, 253, 254, 247, 248] (by decide +kernel) (by decide +kernel)
set_option maxRecDepth 20000 in
theorem gL_act_X8_set : GoodIn wsL_act (wsV RL 38 RX8 yX8_set wsX8_set) := goodIn_app (goodIn_of _ (by decide +kernel)) ggL_act_X8_set
set_option maxRecDepth 20000 in
theorem ggL_act_X8_passes : GoodIn wsL_act wsX8_passes := goodIn_r _ [101, 48, 6, 49, 10, 50, 51, 22, 52, 13, 53, 32, 33, 23, 54, 24, 21, 55, 56, 57, 58, 59, 60, 61, 62, 63, 64, 65, 66, 67, 68, 102, 103, 104, 4, 105, 76, 77, 78, 79, 8, 80, 81, 82, 83, 84, 85, 86, 87, 88, 89, 227, 228, 229, 230, 231, 232, 233, 234, 235, 236, 237, 238, 239, 240, 241, 242, 243, 244, 249, 250, 251, 252, 253, 254, 247, 248] (by decide +kernel) (by decide +kernel)
set_option maxRecDepth 20000 in
theorem gL_act_X8_passes : GoodIn wsL_act (wsV RL 41 RX8 yX8_passes wsX8_passes) := goodIn_app (goodIn_of _ (by decide +kernel)) ggL_act_X8_passes
set_option maxRecDepth 20000 in
theorem ggL_act_X8_begin : GoodIn wsL_act wsX8_begin := goodIn_r _ [109, 48, 6, 49, 10, 50, 51, 22, 52, 13, 53, 32, 33, 23, 54, 24, 21, 55, 56, 57, 58, 59, 60, 61, 62, 63, 64, 65, 66, 67, 68, 110, 111, 112, 9, 11, 12, 76, 77, 78, 4, 79, 8, 80, 81, 82, 83, 84, 85, 86, 87, 88, 89, 227, 228, 229, 230, 231, 232, 233, 234, 235, 236, 237, 238, 239, 240, 241, 242, 243, 244, 249, 250, 251, 252, 253, 254, 247, 248] (by decide +kernel) (by decide +kernel)
set_option maxRecDepth 20000 in
theorem gL_act_X8_begin : GoodIn wsL_act (wsV RL 44 RX8 yX8_begin wsX8_begin) := goodIn_app (goodIn_of _ (by decide +kernel)) ggL_act_X8_begin
set_option maxRecDepth 20000 in
theorem ggL_act_X8_pass : GoodIn wsL_act wsX8_pass := goodIn_r _ [116, 48, 6, 49, 10, 50, 51, 22, 52, 13, 53, 32, 33, 23, 54, 24, 21, 55, 56, 57, 58, 59, 60, 61, 62, 63, 64, 65, 66, 67, 68, 117, 118, 119, 4, 120, 121, 122, 123, 17, 18, 19, 20, 25, 26, 27, 28, 29, 30, 31, 34, 9, 11, 12, 124, 125, 126, 127, 128, 129, 130, 131, 132, 76, 77, 78, 79, 8, 80, 81, 82, 83, 84, 85, 86, 87, 88, 89, 227, 228, 229, 230, 231, 232, 233, 234, 235, 236, 237, 238, 239, 240, 241, 242, 243, 244, 249, 250, 251, 252, 253, 254, 247, 248] (by decide +kernel) (by decide +kernel)
set_option maxRecDepth 20000 in
theorem gL_act_X8_pass : GoodIn wsL_act (wsV RL 47 RX8 yX8_pass wsX8_pass) := goodIn_app (goodIn_of _ (by decide +kernel)) ggL_act_X8_pass
set_option maxRecDepth 20000 in
theorem ggL_act_X8_play : GoodIn wsL_act wsX8_play := goodIn_r _ [136, 48, 6, 49, 10, 50, 51, 22, 52, 13, 53, 32, 33, 23, 54, 24, 21, 55, 56, 57, 58, 59, 60, 61, 62, 63, 64, 65, 66, 67, 68, 137, 138, 139, 4, 140, 141, 14, 15, 16, 17, 18, 19, 20, 25, 26, 27, 28, 29, 30, 31, 34, 9, 11, 12, 142, 143, 144, 145, 146, 147, 148, 149, 150, 151, 152, 153, 154, 155, 156, 157, 158, 159, 160, 161, 162, 163, 164, 165, 166, 167, 168, 169, 170, 171, 172, 173, 174, 175, 176, 177, 178, 179, 180, 124, 125, 181, 182, 183, 184, 185, 186, 187, 188, 189, 190, 191, 192, 193, 194, 195, 196, 197, 198, 199, 200, 201, 202, 203, 121, 122, 123, 204, 126, 127, 128, 129, 130, 131, 132, 205, 206, 207, 208, 209, 210, 211, 212, 76, 77, 78, 79, 8, 80, 81, 82, 83, 84, 85, 86, 87, 88, 89, 227, 228, 229, 230, 231, 232, 233, 234, 235, 236, 237, 238, 239, 240, 241, 242, 243, 244, 249, 250, 251, 252, 253, 254, 255, 256, 257, 258, 259, 260, 261, 262, 247, 248] (by decide +kernel) (by decide +kernel)
set_option maxRecDepth 20000 in
theorem gL_act_X8_play : GoodIn wsL_act (wsV RL 50 RX8 yX8_play wsX8_play) := goodIn_app (goodIn_of _ (by decide +kernel)) ggL_act_X8_play
set_option maxRecDepth 20000 in
theorem ggL_act_X8_restore : GoodIn wsL_act wsX8_restore := goodIn_r _ [216, 217, 48, 6, 49, 10, 50, 51, 22, 52, 13, 53, 32, 33, 23, 54, 24, 21, 55, 56, 57, 58, 59, 60, 61, 62, 63, 64, 65, 66, 67, 68, 9, 11, 12, 76, 77, 78, 4, 79, 8, 80, 81, 82, 83, 84, 85, 86, 87, 88, 89, 227, 228, 229, 230, 231, 232, 233, 234, 263, 264, 235, 236, 237, 238, 239, 240, 241, 242, 243, 244, 249, 250, 251, 252, 253, 254, 247, 248] (by decide +kernel) (by decide +kernel)
set_option maxRecDepth 20000 in
theorem gL_act_X8_restore : GoodIn wsL_act (wsV RL 53 RX8 yX8_restore wsX8_restore) := goodIn_app (goodIn_of _ (by decide +kernel)) ggL_act_X8_restore
set_option maxRecDepth 20000 in
theorem ggL_act_X8_take : GoodIn wsL_act wsX8_take := goodIn_r _ [221, 48, 6, 49, 10, 50, 51, 22, 52, 13, 53, 32, 33, 23, 54, 24, 21, 55, 56, 57, 58, 59, 60, 61, 62, 63, 64, 65, 66, 67, 68, 222, 223, 224, 4, 225, 210, 211, 212, 226, 170, 171, 121, 122, 123, 17, 18, 19, 20, 25, 26, 27, 28, 29, 30, 31, 34, 9, 11, 12, 124, 125, 206, 207, 208, 209, 129, 130, 131, 132, 76, 77, 78, 79, 8, 80, 81, 82, 83, 84, 85, 86, 87, 88, 89, 227, 228, 229, 230, 231, 232, 233, 234, 235, 236, 237, 238, 239, 240, 241, 242, 243, 244, 249, 250, 251, 252, 253, 254, 247, 248] (by decide +kernel) (by decide +kernel)
set_option maxRecDepth 20000 in
theorem gL_act_X8_take : GoodIn wsL_act (wsV RL 56 RX8 yX8_take wsX8_take) := goodIn_app (goodIn_of _ (by decide +kernel)) ggL_act_X8_take
theorem dL_act_0 : decode cL_act 0 = .ok (.iload_n 1, 1) := by decide +kernel
theorem dL_act_1 : decode cL_act 1 = .ok (.iconst 4, 1) := by decide +kernel
theorem dL_act_2 : decode cL_act 2 = .ok (.ishr, 1) := by decide +kernel
theorem dL_act_3 : decode cL_act 3 = .ok (.aload_n 0, 1) := by decide +kernel
theorem dL_act_4 : decode cL_act 4 = .ok (.iconst 0, 1) := by decide +kernel
theorem dL_act_5 : decode cL_act 5 = .ok (.invokevirtual 12, 3) := by decide +kernel
theorem dL_act_8 : decode cL_act 8 = .ok (.iconst 1, 1) := by decide +kernel
theorem dL_act_9 : decode cL_act 9 = .ok (.iadd, 1) := by decide +kernel
theorem dL_act_10 : decode cL_act 10 = .ok (.invokestatic 29, 3) := by decide +kernel
theorem dL_act_13 : decode cL_act 13 = .ok (.istore_n 3, 1) := by decide +kernel
theorem dL_act_14 : decode cL_act 14 = .ok (.iload_n 1, 1) := by decide +kernel
theorem dL_act_15 : decode cL_act 15 = .ok (.bipush 15, 2) := by decide +kernel
theorem dL_act_17 : decode cL_act 17 = .ok (.iand, 1) := by decide +kernel
theorem dL_act_18 : decode cL_act 18 = .ok (.tableswitch 175 0 8 #[50, 50, 98, 116, 133, 138, 138, 143, 167], 50) := by decide +kernel
theorem dL_act_68 : decode cL_act 68 = .ok (.aload_n 0, 1) := by decide +kernel
theorem dL_act_69 : decode cL_act 69 = .ok (.iload_n 2, 1) := by decide +kernel
theorem dL_act_70 : decode cL_act 70 = .ok (.iload_n 2, 1) := by decide +kernel
theorem dL_act_71 : decode cL_act 71 = .ok (.bipush 20, 2) := by decide +kernel
theorem dL_act_73 : decode cL_act 73 = .ok (.ishr, 1) := by decide +kernel
theorem dL_act_74 : decode cL_act 74 = .ok (.bipush 7, 2) := by decide +kernel
theorem dL_act_76 : decode cL_act 76 = .ok (.iand, 1) := by decide +kernel
theorem dL_act_77 : decode cL_act 77 = .ok (.ifCond .ne 8, 3) := by decide +kernel
theorem dL_act_80 : decode cL_act 80 = .ok (.bipush 7, 2) := by decide +kernel
theorem dL_act_82 : decode cL_act 82 = .ok (.goto 5, 3) := by decide +kernel
theorem dL_act_85 : decode cL_act 85 = .ok (.bipush 6, 2) := by decide +kernel
theorem dL_act_87 : decode cL_act 87 = .ok (.invokestatic 29, 3) := by decide +kernel
theorem dL_act_90 : decode cL_act 90 = .ok (.iload_n 2, 1) := by decide +kernel
theorem dL_act_91 : decode cL_act 91 = .ok (.iconst 3, 1) := by decide +kernel
theorem dL_act_92 : decode cL_act 92 = .ok (.ishr, 1) := by decide +kernel
theorem dL_act_93 : decode cL_act 93 = .ok (.bipush 11, 2) := by decide +kernel
theorem dL_act_95 : decode cL_act 95 = .ok (.invokestatic 29, 3) := by decide +kernel
theorem dL_act_98 : decode cL_act 98 = .ok (.iload_n 2, 1) := by decide +kernel
theorem dL_act_99 : decode cL_act 99 = .ok (.bipush 7, 2) := by decide +kernel
theorem dL_act_101 : decode cL_act 101 = .ok (.ishr, 1) := by decide +kernel
theorem dL_act_102 : decode cL_act 102 = .ok (.iconst 3, 1) := by decide +kernel
theorem dL_act_103 : decode cL_act 103 = .ok (.iand, 1) := by decide +kernel
theorem dL_act_104 : decode cL_act 104 = .ok (.ifCond .ne 7, 3) := by decide +kernel
theorem dL_act_107 : decode cL_act 107 = .ok (.iconst 1, 1) := by decide +kernel
theorem dL_act_108 : decode cL_act 108 = .ok (.goto 4, 3) := by decide +kernel
theorem dL_act_111 : decode cL_act 111 = .ok (.iconst 0, 1) := by decide +kernel
theorem dL_act_112 : decode cL_act 112 = .ok (.invokevirtual 34, 3) := by decide +kernel
theorem dL_act_115 : decode cL_act 115 = .ok (.ireturn, 1) := by decide +kernel
theorem dL_act_116 : decode cL_act 116 = .ok (.aload_n 0, 1) := by decide +kernel
theorem dL_act_117 : decode cL_act 117 = .ok (.iload_n 2, 1) := by decide +kernel
theorem dL_act_118 : decode cL_act 118 = .ok (.iconst 3, 1) := by decide +kernel
theorem dL_act_119 : decode cL_act 119 = .ok (.invokestatic 29, 3) := by decide +kernel
theorem dL_act_122 : decode cL_act 122 = .ok (.iload_n 2, 1) := by decide +kernel
theorem dL_act_123 : decode cL_act 123 = .ok (.iconst 2, 1) := by decide +kernel
theorem dL_act_124 : decode cL_act 124 = .ok (.ishr, 1) := by decide +kernel
theorem dL_act_125 : decode cL_act 125 = .ok (.bipush 40, 2) := by decide +kernel
theorem dL_act_127 : decode cL_act 127 = .ok (.invokestatic 29, 3) := by decide +kernel
theorem dL_act_130 : decode cL_act 130 = .ok (.invokevirtual 38, 3) := by decide +kernel
theorem dL_act_133 : decode cL_act 133 = .ok (.ireturn, 1) := by decide +kernel
theorem dL_act_134 : decode cL_act 134 = .ok (.aload_n 0, 1) := by decide +kernel
theorem dL_act_135 : decode cL_act 135 = .ok (.iload_n 2, 1) := by decide +kernel
theorem dL_act_136 : decode cL_act 136 = .ok (.iconst 4, 1) := by decide +kernel
theorem dL_act_137 : decode cL_act 137 = .ok (.invokestatic 29, 3) := by decide +kernel
theorem dL_act_140 : decode cL_act 140 = .ok (.iload_n 2, 1) := by decide +kernel
theorem dL_act_141 : decode cL_act 141 = .ok (.iconst 2, 1) := by decide +kernel
theorem dL_act_142 : decode cL_act 142 = .ok (.ishr, 1) := by decide +kernel
theorem dL_act_143 : decode cL_act 143 = .ok (.iconst 3, 1) := by decide +kernel
theorem dL_act_144 : decode cL_act 144 = .ok (.invokestatic 29, 3) := by decide +kernel
theorem dL_act_147 : decode cL_act 147 = .ok (.invokevirtual 41, 3) := by decide +kernel
theorem dL_act_150 : decode cL_act 150 = .ok (.ireturn, 1) := by decide +kernel
theorem dL_act_151 : decode cL_act 151 = .ok (.aload_n 0, 1) := by decide +kernel
theorem dL_act_152 : decode cL_act 152 = .ok (.invokevirtual 44, 3) := by decide +kernel
theorem dL_act_155 : decode cL_act 155 = .ok (.ireturn, 1) := by decide +kernel
theorem dL_act_156 : decode cL_act 156 = .ok (.aload_n 0, 1) := by decide +kernel
theorem dL_act_157 : decode cL_act 157 = .ok (.invokevirtual 47, 3) := by decide +kernel
theorem dL_act_160 : decode cL_act 160 = .ok (.ireturn, 1) := by decide +kernel
theorem dL_act_161 : decode cL_act 161 = .ok (.aload_n 0, 1) := by decide +kernel
theorem dL_act_162 : decode cL_act 162 = .ok (.iload_n 2, 1) := by decide +kernel
theorem dL_act_163 : decode cL_act 163 = .ok (.iload_n 2, 1) := by decide +kernel
theorem dL_act_164 : decode cL_act 164 = .ok (.bipush 20, 2) := by decide +kernel
theorem dL_act_166 : decode cL_act 166 = .ok (.ishr, 1) := by decide +kernel
theorem dL_act_167 : decode cL_act 167 = .ok (.iconst 1, 1) := by decide +kernel
theorem dL_act_168 : decode cL_act 168 = .ok (.iand, 1) := by decide +kernel
theorem dL_act_169 : decode cL_act 169 = .ok (.ifCond .ne 7, 3) := by decide +kernel
theorem dL_act_172 : decode cL_act 172 = .ok (.iconst 4, 1) := by decide +kernel
theorem dL_act_173 : decode cL_act 173 = .ok (.goto 5, 3) := by decide +kernel
theorem dL_act_176 : decode cL_act 176 = .ok (.bipush 42, 2) := by decide +kernel
theorem dL_act_178 : decode cL_act 178 = .ok (.invokestatic 29, 3) := by decide +kernel
theorem dL_act_181 : decode cL_act 181 = .ok (.invokevirtual 50, 3) := by decide +kernel
theorem dL_act_184 : decode cL_act 184 = .ok (.ireturn, 1) := by decide +kernel
theorem dL_act_185 : decode cL_act 185 = .ok (.aload_n 0, 1) := by decide +kernel
theorem dL_act_186 : decode cL_act 186 = .ok (.iload_n 2, 1) := by decide +kernel
theorem dL_act_187 : decode cL_act 187 = .ok (.iconst 1, 1) := by decide +kernel
theorem dL_act_188 : decode cL_act 188 = .ok (.iand, 1) := by decide +kernel
theorem dL_act_189 : decode cL_act 189 = .ok (.invokevirtual 53, 3) := by decide +kernel
theorem dL_act_192 : decode cL_act 192 = .ok (.ireturn, 1) := by decide +kernel
theorem dL_act_193 : decode cL_act 193 = .ok (.aload_n 0, 1) := by decide +kernel
theorem dL_act_194 : decode cL_act 194 = .ok (.iload_n 3, 1) := by decide +kernel
theorem dL_act_195 : decode cL_act 195 = .ok (.iload_n 2, 1) := by decide +kernel
theorem dL_act_196 : decode cL_act 196 = .ok (.iconst 5, 1) := by decide +kernel
theorem dL_act_197 : decode cL_act 197 = .ok (.invokestatic 29, 3) := by decide +kernel
theorem dL_act_200 : decode cL_act 200 = .ok (.invokevirtual 56, 3) := by decide +kernel
theorem dL_act_203 : decode cL_act 203 = .ok (.ireturn, 1) := by decide +kernel
set_option maxRecDepth 20000 in
theorem ggL_holds_X8_moves : GoodIn wsL_holds wsX8_moves := goodIn_r _ [5, 6, 7, 8, 9, 10, 11, 12, 13, 14, 15, 16, 17, 4, 18, 19, 20, 21, 22, 23, 24, 25, 26, 27, 28, 244, 245, 246, 247, 248, 249, 250, 251, 252, 253, 254, 255, 256, 257, 258, 259, 260, 261, 262, 263, 264, 265, 266, 267] (by decide +kernel) (by decide +kernel)
set_option maxRecDepth 20000 in
theorem gL_holds_X8_moves : GoodIn wsL_holds (wsV RL 25 RX8 yX8_moves wsX8_moves) := goodIn_app (goodIn_of _ (by decide +kernel)) ggL_holds_X8_moves
set_option maxRecDepth 20000 in
theorem ggL_holds_X8_count : GoodIn wsL_holds wsX8_count := goodIn_r _ [32, 6, 33, 34, 26, 8, 27, 28, 12, 35, 36, 37, 38, 7, 9, 10, 11, 13, 14, 15, 16, 17, 4, 18, 19, 20, 21, 22, 23, 24, 25, 39, 40, 41, 42, 244, 245, 246, 247, 248, 249, 250, 251, 252, 253, 254, 255, 256, 257, 258, 259, 260, 261, 268, 269, 270, 271, 262, 263, 264, 265, 266, 267] (by decide +kernel) (by decide +kernel)
set_option maxRecDepth 20000 in
theorem gL_holds_X8_count : GoodIn wsL_holds (wsV RL 12 RX8 yX8_count wsX8_count) := goodIn_app (goodIn_of _ (by decide +kernel)) ggL_holds_X8_count
set_option maxRecDepth 20000 in
theorem ggL_holds_X8_ofPlayer : GoodIn wsL_holds wsX8_ofPlayer := goodIn_r _ [46, 6, 20, 8, 21, 22, 23, 24, 47, 48, 49, 50, 19, 42, 35, 36, 37, 38, 7, 9, 10, 11, 12, 13, 14, 15, 16, 17, 4, 18, 25, 26, 27, 28, 51, 39, 40, 41, 244, 245, 246, 247, 248, 249, 250, 251, 266, 267, 252, 253, 254, 255, 256, 257, 258, 259, 260, 261, 262, 263, 264, 265] (by decide +kernel) (by decide +kernel)
set_option maxRecDepth 20000 in
theorem gL_holds_X8_ofPlayer : GoodIn wsL_holds (wsV RL 22 RX8 yX8_ofPlayer wsX8_ofPlayer) := goodIn_app (goodIn_of _ (by decide +kernel)) ggL_holds_X8_ofPlayer
set_option maxRecDepth 20000 in
theorem ggL_holds_X8_ofPile : GoodIn wsL_holds wsX8_ofPile := goodIn_r _ [55, 6, 56, 57, 8, 58, 59, 60, 12, 61, 62, 63, 64, 65, 66, 67, 68, 69, 70, 71, 72, 73, 74, 75, 4, 76, 77, 78, 79, 244, 245, 246, 247, 248, 249, 250, 251, 252, 253, 254, 255, 256, 257, 258, 259, 260, 261, 262, 263, 264, 265, 272, 273] (by decide +kernel) (by decide +kernel)
set_option maxRecDepth 20000 in
theorem gL_holds_X8_ofPile : GoodIn wsL_holds (wsV RL 18 RX8 yX8_ofPile wsX8_ofPile) := goodIn_app (goodIn_of _ (by decide +kernel)) ggL_holds_X8_ofPile
set_option maxRecDepth 20000 in
theorem ggL_holds_X8_grundy : GoodIn wsL_holds wsX8_grundy := goodIn_r _ [83, 56, 6, 61, 62, 63, 64, 65, 66, 67, 68, 69, 70, 71, 72, 73, 74, 75, 4, 76, 77, 78, 79, 244, 245, 246, 247, 248, 249, 250, 251, 252, 253, 254, 255, 256, 257, 258, 259, 260, 261, 272, 273] (by decide +kernel) (by decide +kernel)
set_option maxRecDepth 20000 in
theorem gL_holds_X8_grundy : GoodIn wsL_holds (wsV RL 59 RX8 yX8_grundy wsX8_grundy) := goodIn_app (goodIn_of _ (by decide +kernel)) ggL_holds_X8_grundy
set_option maxRecDepth 20000 in
theorem ggL_holds_X8_value : GoodIn wsL_holds wsX8_value := goodIn_r _ [87, 6, 88, 35, 8, 36, 37, 38, 7, 9, 10, 11, 12, 13, 14, 15, 16, 17, 4, 18, 19, 20, 21, 22, 23, 24, 25, 26, 27, 28, 89, 90, 91, 92, 93, 94, 95, 96, 97, 98, 99, 100, 101, 102, 103, 104, 105, 106, 107, 108, 109, 110, 111, 112, 113, 114, 115, 116, 117, 118, 119, 120, 121, 122, 123, 124, 125, 126, 127, 128, 129, 130, 131, 132, 133, 134, 135, 136, 137, 138, 75, 76, 139, 140, 141, 142, 143, 144, 145, 146, 244, 245, 246, 247, 248, 249, 250, 251, 252, 253, 254, 255, 256, 257, 258, 259, 260, 261, 262, 263, 264, 265, 266, 267, 274, 275, 276, 277, 278, 279, 280, 281] (by decide +kernel) (by decide +kernel)
set_option maxRecDepth 20000 in
theorem gL_holds_X8_value : GoodIn wsL_holds (wsV RL 62 RX8 yX8_value wsX8_value) := goodIn_app (goodIn_of _ (by decide +kernel)) ggL_holds_X8_value
set_option maxRecDepth 20000 in
theorem ggL_holds_X8_won : GoodIn wsL_holds wsX8_won := goodIn_r _ [150, 6, 88, 35, 8, 36, 37, 38, 7, 9, 10, 11, 12, 13, 14, 15, 16, 17, 4, 18, 19, 20, 21, 22, 23, 24, 25, 26, 27, 28, 151, 90, 152, 153, 93, 94, 95, 96, 97, 98, 99, 100, 101, 102, 103, 104, 105, 106, 107, 108, 109, 110, 111, 112, 113, 114, 115, 116, 117, 118, 154, 155, 156, 157, 127, 128, 129, 130, 131, 132, 133, 134, 135, 136, 137, 138, 75, 76, 139, 140, 141, 158, 159, 160, 161, 146, 244, 245, 246, 247, 248, 249, 250, 251, 252, 253, 254, 255, 256, 257, 258, 259, 260, 261, 262, 263, 264, 265, 266, 267, 274, 275, 276, 277, 278, 279, 280, 281] (by decide +kernel) (by decide +kernel)
set_option maxRecDepth 20000 in
theorem gL_holds_X8_won : GoodIn wsL_holds (wsV RL 65 RX8 yX8_won wsX8_won) := goodIn_app (goodIn_of _ (by decide +kernel)) ggL_holds_X8_won
set_option maxRecDepth 20000 in
theorem ggL_holds_X8_winning : GoodIn wsL_holds wsX8_winning := goodIn_r _ [165, 6, 88, 35, 8, 36, 37, 38, 7, 9, 10, 11, 12, 13, 14, 15, 16, 17, 4, 18, 19, 20, 21, 22, 23, 24, 25, 26, 27, 28, 166, 90, 167, 168, 93, 94, 95, 96, 97, 98, 99, 100, 101, 102, 103, 104, 105, 106, 107, 108, 109, 110, 111, 112, 113, 114, 115, 116, 117, 118, 130, 131, 132, 133, 134, 135, 136, 137, 138, 75, 76, 139, 140, 141, 158, 159, 160, 161, 146, 154, 155, 156, 157, 127, 128, 129, 244, 245, 246, 247, 248, 249, 250, 251, 252, 253, 254, 255, 256, 257, 258, 259, 260, 261, 262, 263, 264, 265, 266, 267, 274, 275, 276, 277, 278, 279, 280, 281] (by decide +kernel) (by decide +kernel)
set_option maxRecDepth 20000 in
theorem gL_holds_X8_winning : GoodIn wsL_holds (wsV RL 68 RX8 yX8_winning wsX8_winning) := goodIn_app (goodIn_of _ (by decide +kernel)) ggL_holds_X8_winning
set_option maxRecDepth 20000 in
theorem ggL_holds_X8_best : GoodIn wsL_holds wsX8_best := goodIn_r _ [172, 6, 88, 35, 8, 36, 37, 38, 7, 9, 10, 11, 12, 13, 14, 15, 16, 17, 4, 18, 19, 20, 21, 22, 23, 24, 25, 26, 27, 28, 173, 90, 174, 175, 103, 93, 94, 95, 96, 97, 98, 99, 100, 101, 102, 104, 105, 106, 107, 108, 109, 110, 111, 112, 113, 114, 115, 116, 117, 118, 130, 131, 132, 133, 134, 135, 136, 137, 138, 75, 76, 139, 140, 141, 142, 143, 144, 145, 146, 119, 120, 121, 122, 123, 124, 125, 126, 127, 128, 129, 244, 245, 246, 247, 248, 249, 250, 251, 252, 253, 254, 255, 256, 257, 258, 259, 260, 261, 262, 263, 264, 265, 266, 267, 274, 275, 276, 277, 278, 279, 280, 281] (by decide +kernel) (by decide +kernel)
set_option maxRecDepth 20000 in
theorem gL_holds_X8_best : GoodIn wsL_holds (wsV RL 71 RX8 yX8_best wsX8_best) := goodIn_app (goodIn_of _ (by decide +kernel)) ggL_holds_X8_best
set_option maxRecDepth 20000 in
theorem ggL_holds_X8_play : GoodIn wsL_holds wsX8_play := goodIn_r _ [179, 180, 6, 181, 8, 182, 183, 13, 50, 12, 60, 23, 24, 14, 184, 15, 11, 185, 186, 187, 188, 189, 190, 191, 192, 193, 194, 195, 196, 197, 198, 199, 200, 201, 4, 202, 88, 35, 36, 37, 38, 7, 9, 10, 16, 17, 18, 19, 20, 21, 22, 25, 26, 27, 28, 173, 90, 174, 175, 103, 93, 94, 95, 96, 97, 98, 99, 100, 101, 102, 104, 105, 106, 107, 108, 109, 110, 111, 112, 113, 114, 115, 116, 117, 118, 130, 131, 132, 133, 134, 135, 136, 137, 138, 75, 76, 139, 140, 141, 142, 143, 144, 145, 146, 119, 120, 121, 122, 123, 124, 125, 126, 127, 128, 129, 203, 204, 205, 206, 207, 208, 209, 210, 211, 212, 213, 214, 215, 216, 217, 218, 219, 220, 221, 222, 57, 58, 59, 223, 224, 225, 226, 34, 227, 228, 229, 230, 231, 232, 233, 234, 235, 236, 244, 245, 246, 247, 248, 249, 250, 251, 252, 253, 254, 255, 256, 257, 258, 259, 260, 261, 262, 263, 264, 265, 266, 267, 274, 275, 276, 277, 278, 279, 280, 281, 270, 271] (by decide +kernel) (by decide +kernel)
set_option maxRecDepth 20000 in
theorem gL_holds_X8_play : GoodIn wsL_holds (wsV RL 50 RX8 yX8_play wsX8_play) := goodIn_app (goodIn_of _ (by decide +kernel)) ggL_holds_X8_play
set_option maxRecDepth 20000 in
theorem ggL_holds_X8_undo : GoodIn wsL_holds wsX8_undo := goodIn_r _ [240, 34, 6, 241, 228, 242, 243, 231, 232, 181, 8, 182, 183, 13, 50, 12, 60, 23, 24, 14, 184, 15, 11, 185, 186, 187, 188, 189, 190, 191, 192, 193, 194, 195, 196, 197, 198, 244, 245, 246, 247, 248, 249, 250, 251, 270, 271, 252, 253, 254, 255, 256, 257, 258, 259, 260, 261, 262, 263, 264, 265, 266, 267] (by decide +kernel) (by decide +kernel)
set_option maxRecDepth 20000 in
theorem gL_holds_X8_undo : GoodIn wsL_holds (wsV RL 74 RX8 yX8_undo wsX8_undo) := goodIn_app (goodIn_of _ (by decide +kernel)) ggL_holds_X8_undo
theorem dL_holds_0 : decode cL_holds 0 = .ok (.aload_n 0, 1) := by decide +kernel
theorem dL_holds_1 : decode cL_holds 1 = .ok (.invokevirtual 25, 3) := by decide +kernel
theorem dL_holds_4 : decode cL_holds 4 = .ok (.istore_n 1, 1) := by decide +kernel
theorem dL_holds_5 : decode cL_holds 5 = .ok (.aload_n 0, 1) := by decide +kernel
theorem dL_holds_6 : decode cL_holds 6 = .ok (.iconst 3, 1) := by decide +kernel
theorem dL_holds_7 : decode cL_holds 7 = .ok (.invokevirtual 12, 3) := by decide +kernel
theorem dL_holds_10 : decode cL_holds 10 = .ok (.iconst 1, 1) := by decide +kernel
theorem dL_holds_11 : decode cL_holds 11 = .ok (.if_icmp .ne 7, 3) := by decide +kernel
theorem dL_holds_14 : decode cL_holds 14 = .ok (.iconst 1, 1) := by decide +kernel
theorem dL_holds_15 : decode cL_holds 15 = .ok (.goto 4, 3) := by decide +kernel
theorem dL_holds_18 : decode cL_holds 18 = .ok (.iconst 0, 1) := by decide +kernel
theorem dL_holds_19 : decode cL_holds 19 = .ok (.istore_n 2, 1) := by decide +kernel
theorem dL_holds_20 : decode cL_holds 20 = .ok (.iconst 0, 1) := by decide +kernel
theorem dL_holds_21 : decode cL_holds 21 = .ok (.istore_n 3, 1) := by decide +kernel
theorem dL_holds_22 : decode cL_holds 22 = .ok (.aload_n 0, 1) := by decide +kernel
theorem dL_holds_23 : decode cL_holds 23 = .ok (.iconst 0, 1) := by decide +kernel
theorem dL_holds_24 : decode cL_holds 24 = .ok (.iconst 1, 1) := by decide +kernel
theorem dL_holds_25 : decode cL_holds 25 = .ok (.invokevirtual 22, 3) := by decide +kernel
theorem dL_holds_28 : decode cL_holds 28 = .ok (.ifCond .ne 16, 3) := by decide +kernel
theorem dL_holds_31 : decode cL_holds 31 = .ok (.aload_n 0, 1) := by decide +kernel
theorem dL_holds_32 : decode cL_holds 32 = .ok (.iconst 1, 1) := by decide +kernel
theorem dL_holds_33 : decode cL_holds 33 = .ok (.iconst 1, 1) := by decide +kernel
theorem dL_holds_34 : decode cL_holds 34 = .ok (.invokevirtual 22, 3) := by decide +kernel
theorem dL_holds_37 : decode cL_holds 37 = .ok (.ifCond .ne 7, 3) := by decide +kernel
theorem dL_holds_40 : decode cL_holds 40 = .ok (.iconst 1, 1) := by decide +kernel
theorem dL_holds_41 : decode cL_holds 41 = .ok (.goto 4, 3) := by decide +kernel
theorem dL_holds_44 : decode cL_holds 44 = .ok (.iconst 0, 1) := by decide +kernel
theorem dL_holds_45 : decode cL_holds 45 = .ok (.istore 4, 2) := by decide +kernel
theorem dL_holds_47 : decode cL_holds 47 = .ok (.iconst 0, 1) := by decide +kernel
theorem dL_holds_48 : decode cL_holds 48 = .ok (.istore 5, 2) := by decide +kernel
theorem dL_holds_50 : decode cL_holds 50 = .ok (.iconst 0, 1) := by decide +kernel
theorem dL_holds_51 : decode cL_holds 51 = .ok (.istore 6, 2) := by decide +kernel
theorem dL_holds_53 : decode cL_holds 53 = .ok (.iload 6, 2) := by decide +kernel
theorem dL_holds_55 : decode cL_holds 55 = .ok (.aload_n 0, 1) := by decide +kernel
theorem dL_holds_56 : decode cL_holds 56 = .ok (.iconst 0, 1) := by decide +kernel
theorem dL_holds_57 : decode cL_holds 57 = .ok (.invokevirtual 12, 3) := by decide +kernel
theorem dL_holds_60 : decode cL_holds 60 = .ok (.if_icmp .ge 103, 3) := by decide +kernel
theorem dL_holds_63 : decode cL_holds 63 = .ok (.iload_n 3, 1) := by decide +kernel
theorem dL_holds_64 : decode cL_holds 64 = .ok (.aload_n 0, 1) := by decide +kernel
theorem dL_holds_65 : decode cL_holds 65 = .ok (.iload 6, 2) := by decide +kernel
theorem dL_holds_67 : decode cL_holds 67 = .ok (.iconst 0, 1) := by decide +kernel
theorem dL_holds_68 : decode cL_holds 68 = .ok (.invokevirtual 18, 3) := by decide +kernel
theorem dL_holds_71 : decode cL_holds 71 = .ok (.iadd, 1) := by decide +kernel
theorem dL_holds_72 : decode cL_holds 72 = .ok (.istore_n 3, 1) := by decide +kernel
theorem dL_holds_73 : decode cL_holds 73 = .ok (.iload 4, 2) := by decide +kernel
theorem dL_holds_75 : decode cL_holds 75 = .ok (.ifCond .eq 17, 3) := by decide +kernel
theorem dL_holds_78 : decode cL_holds 78 = .ok (.aload_n 0, 1) := by decide +kernel
theorem dL_holds_79 : decode cL_holds 79 = .ok (.iload 6, 2) := by decide +kernel
theorem dL_holds_81 : decode cL_holds 81 = .ok (.iconst 2, 1) := by decide +kernel
theorem dL_holds_82 : decode cL_holds 82 = .ok (.invokevirtual 18, 3) := by decide +kernel
theorem dL_holds_85 : decode cL_holds 85 = .ok (.ifCond .ne 7, 3) := by decide +kernel
theorem dL_holds_88 : decode cL_holds 88 = .ok (.iconst 1, 1) := by decide +kernel
theorem dL_holds_89 : decode cL_holds 89 = .ok (.goto 4, 3) := by decide +kernel
theorem dL_holds_92 : decode cL_holds 92 = .ok (.iconst 0, 1) := by decide +kernel
theorem dL_holds_93 : decode cL_holds 93 = .ok (.istore 4, 2) := by decide +kernel
theorem dL_holds_95 : decode cL_holds 95 = .ok (.iload 5, 2) := by decide +kernel
theorem dL_holds_97 : decode cL_holds 97 = .ok (.aload_n 0, 1) := by decide +kernel
theorem dL_holds_98 : decode cL_holds 98 = .ok (.iload 6, 2) := by decide +kernel
theorem dL_holds_100 : decode cL_holds 100 = .ok (.iconst 4, 1) := by decide +kernel
theorem dL_holds_101 : decode cL_holds 101 = .ok (.invokevirtual 18, 3) := by decide +kernel
theorem dL_holds_104 : decode cL_holds 104 = .ok (.ixor, 1) := by decide +kernel
theorem dL_holds_105 : decode cL_holds 105 = .ok (.istore 5, 2) := by decide +kernel
theorem dL_holds_107 : decode cL_holds 107 = .ok (.aload_n 0, 1) := by decide +kernel
theorem dL_holds_108 : decode cL_holds 108 = .ok (.iload 6, 2) := by decide +kernel
theorem dL_holds_110 : decode cL_holds 110 = .ok (.iconst 0, 1) := by decide +kernel
theorem dL_holds_111 : decode cL_holds 111 = .ok (.invokevirtual 18, 3) := by decide +kernel
theorem dL_holds_114 : decode cL_holds 114 = .ok (.ifCond .lt 41, 3) := by decide +kernel
theorem dL_holds_117 : decode cL_holds 117 = .ok (.aload_n 0, 1) := by decide +kernel
theorem dL_holds_118 : decode cL_holds 118 = .ok (.iload 6, 2) := by decide +kernel
theorem dL_holds_120 : decode cL_holds 120 = .ok (.iconst 0, 1) := by decide +kernel
theorem dL_holds_121 : decode cL_holds 121 = .ok (.invokevirtual 18, 3) := by decide +kernel
theorem dL_holds_124 : decode cL_holds 124 = .ok (.aload_n 0, 1) := by decide +kernel
theorem dL_holds_125 : decode cL_holds 125 = .ok (.iload 6, 2) := by decide +kernel
theorem dL_holds_127 : decode cL_holds 127 = .ok (.iconst 3, 1) := by decide +kernel
theorem dL_holds_128 : decode cL_holds 128 = .ok (.invokevirtual 18, 3) := by decide +kernel
theorem dL_holds_131 : decode cL_holds 131 = .ok (.if_icmp .gt 24, 3) := by decide +kernel
theorem dL_holds_134 : decode cL_holds 134 = .ok (.aload_n 0, 1) := by decide +kernel
theorem dL_holds_135 : decode cL_holds 135 = .ok (.iload 6, 2) := by decide +kernel
theorem dL_holds_137 : decode cL_holds 137 = .ok (.iconst 4, 1) := by decide +kernel
theorem dL_holds_138 : decode cL_holds 138 = .ok (.invokevirtual 18, 3) := by decide +kernel
theorem dL_holds_141 : decode cL_holds 141 = .ok (.aload_n 0, 1) := by decide +kernel
theorem dL_holds_142 : decode cL_holds 142 = .ok (.aload_n 0, 1) := by decide +kernel
theorem dL_holds_143 : decode cL_holds 143 = .ok (.iload 6, 2) := by decide +kernel
theorem dL_holds_145 : decode cL_holds 145 = .ok (.iconst 0, 1) := by decide +kernel
theorem dL_holds_146 : decode cL_holds 146 = .ok (.invokevirtual 18, 3) := by decide +kernel
theorem dL_holds_149 : decode cL_holds 149 = .ok (.invokevirtual 59, 3) := by decide +kernel
theorem dL_holds_152 : decode cL_holds 152 = .ok (.if_icmp .eq 5, 3) := by decide +kernel
theorem dL_holds_155 : decode cL_holds 155 = .ok (.iconst 0, 1) := by decide +kernel
theorem dL_holds_156 : decode cL_holds 156 = .ok (.ireturn, 1) := by decide +kernel
theorem dL_holds_157 : decode cL_holds 157 = .ok (.iinc 6 1, 3) := by decide +kernel
theorem dL_holds_160 : decode cL_holds 160 = .ok (.goto (-107), 3) := by decide +kernel
theorem dL_holds_163 : decode cL_holds 163 = .ok (.aload_n 0, 1) := by decide +kernel
theorem dL_holds_164 : decode cL_holds 164 = .ok (.iconst 0, 1) := by decide +kernel
theorem dL_holds_165 : decode cL_holds 165 = .ok (.iconst 2, 1) := by decide +kernel
theorem dL_holds_166 : decode cL_holds 166 = .ok (.invokevirtual 22, 3) := by decide +kernel
theorem dL_holds_169 : decode cL_holds 169 = .ok (.aload_n 0, 1) := by decide +kernel
theorem dL_holds_170 : decode cL_holds 170 = .ok (.iconst 1, 1) := by decide +kernel
theorem dL_holds_171 : decode cL_holds 171 = .ok (.iconst 2, 1) := by decide +kernel
theorem dL_holds_172 : decode cL_holds 172 = .ok (.invokevirtual 22, 3) := by decide +kernel
theorem dL_holds_175 : decode cL_holds 175 = .ok (.iadd, 1) := by decide +kernel
theorem dL_holds_176 : decode cL_holds 176 = .ok (.sipush 200, 3) := by decide +kernel
theorem dL_holds_179 : decode cL_holds 179 = .ok (.isub, 1) := by decide +kernel
theorem dL_holds_180 : decode cL_holds 180 = .ok (.istore 6, 2) := by decide +kernel
theorem dL_holds_182 : decode cL_holds 182 = .ok (.iload 6, 2) := by decide +kernel
theorem dL_holds_184 : decode cL_holds 184 = .ok (.aload_n 0, 1) := by decide +kernel
theorem dL_holds_185 : decode cL_holds 185 = .ok (.iconst 0, 1) := by decide +kernel
theorem dL_holds_186 : decode cL_holds 186 = .ok (.iconst 0, 1) := by decide +kernel
theorem dL_holds_187 : decode cL_holds 187 = .ok (.invokevirtual 22, 3) := by decide +kernel
theorem dL_holds_190 : decode cL_holds 190 = .ok (.aload_n 0, 1) := by decide +kernel
theorem dL_holds_191 : decode cL_holds 191 = .ok (.iconst 1, 1) := by decide +kernel
theorem dL_holds_192 : decode cL_holds 192 = .ok (.iconst 0, 1) := by decide +kernel
theorem dL_holds_193 : decode cL_holds 193 = .ok (.invokevirtual 22, 3) := by decide +kernel
theorem dL_holds_196 : decode cL_holds 196 = .ok (.iadd, 1) := by decide +kernel
theorem dL_holds_197 : decode cL_holds 197 = .ok (.if_icmp .ne 42, 3) := by decide +kernel
theorem dL_holds_200 : decode cL_holds 200 = .ok (.iload_n 3, 1) := by decide +kernel
theorem dL_holds_201 : decode cL_holds 201 = .ok (.aload_n 0, 1) := by decide +kernel
theorem dL_holds_202 : decode cL_holds 202 = .ok (.iconst 1, 1) := by decide +kernel
theorem dL_holds_203 : decode cL_holds 203 = .ok (.invokevirtual 12, 3) := by decide +kernel
theorem dL_holds_206 : decode cL_holds 206 = .ok (.if_icmp .ne 33, 3) := by decide +kernel
theorem dL_holds_209 : decode cL_holds 209 = .ok (.iload_n 2, 1) := by decide +kernel
theorem dL_holds_210 : decode cL_holds 210 = .ok (.iload_n 1, 1) := by decide +kernel
theorem dL_holds_211 : decode cL_holds 211 = .ok (.ifCond .ne 7, 3) := by decide +kernel
theorem dL_holds_214 : decode cL_holds 214 = .ok (.iconst 1, 1) := by decide +kernel
theorem dL_holds_215 : decode cL_holds 215 = .ok (.goto 4, 3) := by decide +kernel
theorem dL_holds_218 : decode cL_holds 218 = .ok (.iconst 0, 1) := by decide +kernel
theorem dL_holds_219 : decode cL_holds 219 = .ok (.if_icmp .ne 20, 3) := by decide +kernel
theorem dL_holds_222 : decode cL_holds 222 = .ok (.iload_n 2, 1) := by decide +kernel
theorem dL_holds_223 : decode cL_holds 223 = .ok (.aload_n 0, 1) := by decide +kernel
theorem dL_holds_224 : decode cL_holds 224 = .ok (.iconst 4, 1) := by decide +kernel
theorem dL_holds_225 : decode cL_holds 225 = .ok (.invokevirtual 12, 3) := by decide +kernel
theorem dL_holds_228 : decode cL_holds 228 = .ok (.ifCond .lt 7, 3) := by decide +kernel
theorem dL_holds_231 : decode cL_holds 231 = .ok (.iconst 1, 1) := by decide +kernel
theorem dL_holds_232 : decode cL_holds 232 = .ok (.goto 4, 3) := by decide +kernel
theorem dL_holds_235 : decode cL_holds 235 = .ok (.iconst 0, 1) := by decide +kernel
theorem dL_holds_236 : decode cL_holds 236 = .ok (.if_icmp .eq 5, 3) := by decide +kernel
theorem dL_holds_239 : decode cL_holds 239 = .ok (.iconst 0, 1) := by decide +kernel
theorem dL_holds_240 : decode cL_holds 240 = .ok (.ireturn, 1) := by decide +kernel
theorem dL_holds_241 : decode cL_holds 241 = .ok (.iload_n 2, 1) := by decide +kernel
theorem dL_holds_242 : decode cL_holds 242 = .ok (.ifCond .eq 45, 3) := by decide +kernel
theorem dL_holds_245 : decode cL_holds 245 = .ok (.aload_n 0, 1) := by decide +kernel
theorem dL_holds_246 : decode cL_holds 246 = .ok (.invokevirtual 62, 3) := by decide +kernel
theorem dL_holds_249 : decode cL_holds 249 = .ok (.bipush (-5), 2) := by decide +kernel
theorem dL_holds_251 : decode cL_holds 251 = .ok (.if_icmp .ne 34, 3) := by decide +kernel
theorem dL_holds_254 : decode cL_holds 254 = .ok (.aload_n 0, 1) := by decide +kernel
theorem dL_holds_255 : decode cL_holds 255 = .ok (.invokevirtual 65, 3) := by decide +kernel
theorem dL_holds_258 : decode cL_holds 258 = .ok (.bipush (-5), 2) := by decide +kernel
theorem dL_holds_260 : decode cL_holds 260 = .ok (.if_icmp .ne 25, 3) := by decide +kernel
theorem dL_holds_263 : decode cL_holds 263 = .ok (.aload_n 0, 1) := by decide +kernel
theorem dL_holds_264 : decode cL_holds 264 = .ok (.invokevirtual 68, 3) := by decide +kernel
theorem dL_holds_267 : decode cL_holds 267 = .ok (.bipush (-5), 2) := by decide +kernel
theorem dL_holds_269 : decode cL_holds 269 = .ok (.if_icmp .ne 16, 3) := by decide +kernel
theorem dL_holds_272 : decode cL_holds 272 = .ok (.aload_n 0, 1) := by decide +kernel
theorem dL_holds_273 : decode cL_holds 273 = .ok (.invokevirtual 71, 3) := by decide +kernel
theorem dL_holds_276 : decode cL_holds 276 = .ok (.bipush (-5), 2) := by decide +kernel
theorem dL_holds_278 : decode cL_holds 278 = .ok (.if_icmp .ne 7, 3) := by decide +kernel
theorem dL_holds_281 : decode cL_holds 281 = .ok (.iconst 1, 1) := by decide +kernel
theorem dL_holds_282 : decode cL_holds 282 = .ok (.goto 4, 3) := by decide +kernel
theorem dL_holds_285 : decode cL_holds 285 = .ok (.iconst 0, 1) := by decide +kernel
theorem dL_holds_286 : decode cL_holds 286 = .ok (.ireturn, 1) := by decide +kernel
theorem dL_holds_287 : decode cL_holds 287 = .ok (.aload_n 0, 1) := by decide +kernel
theorem dL_holds_288 : decode cL_holds 288 = .ok (.invokevirtual 68, 3) := by decide +kernel
theorem dL_holds_291 : decode cL_holds 291 = .ok (.istore 7, 2) := by decide +kernel
theorem dL_holds_293 : decode cL_holds 293 = .ok (.aload_n 0, 1) := by decide +kernel
theorem dL_holds_294 : decode cL_holds 294 = .ok (.invokevirtual 71, 3) := by decide +kernel
theorem dL_holds_297 : decode cL_holds 297 = .ok (.istore 8, 2) := by decide +kernel
theorem dL_holds_299 : decode cL_holds 299 = .ok (.aload_n 0, 1) := by decide +kernel
theorem dL_holds_300 : decode cL_holds 300 = .ok (.invokevirtual 62, 3) := by decide +kernel
theorem dL_holds_303 : decode cL_holds 303 = .ok (.sipush 1000, 3) := by decide +kernel
theorem dL_holds_306 : decode cL_holds 306 = .ok (.isub, 1) := by decide +kernel
theorem dL_holds_307 : decode cL_holds 307 = .ok (.istore 9, 2) := by decide +kernel
theorem dL_holds_309 : decode cL_holds 309 = .ok (.iload 7, 2) := by decide +kernel
theorem dL_holds_311 : decode cL_holds 311 = .ok (.iload_n 1, 1) := by decide +kernel
theorem dL_holds_312 : decode cL_holds 312 = .ok (.iconst (-1), 1) := by decide +kernel
theorem dL_holds_313 : decode cL_holds 313 = .ok (.ixor, 1) := by decide +kernel
theorem dL_holds_314 : decode cL_holds 314 = .ok (.iand, 1) := by decide +kernel
theorem dL_holds_315 : decode cL_holds 315 = .ok (.ifCond .ne 69, 3) := by decide +kernel
theorem dL_holds_318 : decode cL_holds 318 = .ok (.iload_n 1, 1) := by decide +kernel
theorem dL_holds_319 : decode cL_holds 319 = .ok (.iload 8, 2) := by decide +kernel
theorem dL_holds_321 : decode cL_holds 321 = .ok (.ishr, 1) := by decide +kernel
theorem dL_holds_322 : decode cL_holds 322 = .ok (.iconst 1, 1) := by decide +kernel
theorem dL_holds_323 : decode cL_holds 323 = .ok (.iand, 1) := by decide +kernel
theorem dL_holds_324 : decode cL_holds 324 = .ok (.ifCond .eq 60, 3) := by decide +kernel
theorem dL_holds_327 : decode cL_holds 327 = .ok (.aload_n 0, 1) := by decide +kernel
theorem dL_holds_328 : decode cL_holds 328 = .ok (.invokevirtual 65, 3) := by decide +kernel
theorem dL_holds_331 : decode cL_holds 331 = .ok (.iconst 1, 1) := by decide +kernel
theorem dL_holds_332 : decode cL_holds 332 = .ok (.if_icmp .ne 7, 3) := by decide +kernel
theorem dL_holds_335 : decode cL_holds 335 = .ok (.iconst 1, 1) := by decide +kernel
theorem dL_holds_336 : decode cL_holds 336 = .ok (.goto 4, 3) := by decide +kernel
theorem dL_holds_339 : decode cL_holds 339 = .ok (.iconst 0, 1) := by decide +kernel
theorem dL_holds_340 : decode cL_holds 340 = .ok (.iload 7, 2) := by decide +kernel
theorem dL_holds_342 : decode cL_holds 342 = .ok (.ifCond .eq 7, 3) := by decide +kernel
theorem dL_holds_345 : decode cL_holds 345 = .ok (.iconst 1, 1) := by decide +kernel
theorem dL_holds_346 : decode cL_holds 346 = .ok (.goto 4, 3) := by decide +kernel
theorem dL_holds_349 : decode cL_holds 349 = .ok (.iconst 0, 1) := by decide +kernel
theorem dL_holds_350 : decode cL_holds 350 = .ok (.if_icmp .ne 34, 3) := by decide +kernel
theorem dL_holds_353 : decode cL_holds 353 = .ok (.iload 4, 2) := by decide +kernel
theorem dL_holds_355 : decode cL_holds 355 = .ok (.ifCond .eq 31, 3) := by decide +kernel
theorem dL_holds_358 : decode cL_holds 358 = .ok (.iload 5, 2) := by decide +kernel
theorem dL_holds_360 : decode cL_holds 360 = .ok (.ifCond .eq 7, 3) := by decide +kernel
theorem dL_holds_363 : decode cL_holds 363 = .ok (.iconst 1, 1) := by decide +kernel
theorem dL_holds_364 : decode cL_holds 364 = .ok (.goto 4, 3) := by decide +kernel
theorem dL_holds_367 : decode cL_holds 367 = .ok (.iconst 0, 1) := by decide +kernel
theorem dL_holds_368 : decode cL_holds 368 = .ok (.aload_n 0, 1) := by decide +kernel
theorem dL_holds_369 : decode cL_holds 369 = .ok (.invokevirtual 65, 3) := by decide +kernel
theorem dL_holds_372 : decode cL_holds 372 = .ok (.iconst 1, 1) := by decide +kernel
theorem dL_holds_373 : decode cL_holds 373 = .ok (.if_icmp .ne 7, 3) := by decide +kernel
theorem dL_holds_376 : decode cL_holds 376 = .ok (.iconst 1, 1) := by decide +kernel
theorem dL_holds_377 : decode cL_holds 377 = .ok (.goto 4, 3) := by decide +kernel
theorem dL_holds_380 : decode cL_holds 380 = .ok (.iconst 0, 1) := by decide +kernel
theorem dL_holds_381 : decode cL_holds 381 = .ok (.if_icmp .eq 5, 3) := by decide +kernel
theorem dL_holds_384 : decode cL_holds 384 = .ok (.iconst 0, 1) := by decide +kernel
theorem dL_holds_385 : decode cL_holds 385 = .ok (.ireturn, 1) := by decide +kernel
theorem dL_holds_386 : decode cL_holds 386 = .ok (.aload_n 0, 1) := by decide +kernel
theorem dL_holds_387 : decode cL_holds 387 = .ok (.iconst 2, 1) := by decide +kernel
theorem dL_holds_388 : decode cL_holds 388 = .ok (.invokevirtual 12, 3) := by decide +kernel
theorem dL_holds_391 : decode cL_holds 391 = .ok (.istore 10, 2) := by decide +kernel
theorem dL_holds_393 : decode cL_holds 393 = .ok (.aload_n 0, 1) := by decide +kernel
theorem dL_holds_394 : decode cL_holds 394 = .ok (.iload 10, 2) := by decide +kernel
theorem dL_holds_396 : decode cL_holds 396 = .ok (.iconst 0, 1) := by decide +kernel
theorem dL_holds_397 : decode cL_holds 397 = .ok (.invokevirtual 22, 3) := by decide +kernel
theorem dL_holds_400 : decode cL_holds 400 = .ok (.istore 11, 2) := by decide +kernel
theorem dL_holds_402 : decode cL_holds 402 = .ok (.aload_n 0, 1) := by decide +kernel
theorem dL_holds_403 : decode cL_holds 403 = .ok (.bipush 8, 2) := by decide +kernel
theorem dL_holds_405 : decode cL_holds 405 = .ok (.invokevirtual 12, 3) := by decide +kernel
theorem dL_holds_408 : decode cL_holds 408 = .ok (.istore 12, 2) := by decide +kernel
theorem dL_holds_410 : decode cL_holds 410 = .ok (.aload_n 0, 1) := by decide +kernel
theorem dL_holds_411 : decode cL_holds 411 = .ok (.iconst 1, 1) := by decide +kernel
theorem dL_holds_412 : decode cL_holds 412 = .ok (.invokevirtual 50, 3) := by decide +kernel
theorem dL_holds_415 : decode cL_holds 415 = .ok (.pop, 1) := by decide +kernel
theorem dL_holds_416 : decode cL_holds 416 = .ok (.aload_n 0, 1) := by decide +kernel
theorem dL_holds_417 : decode cL_holds 417 = .ok (.iload 10, 2) := by decide +kernel
theorem dL_holds_419 : decode cL_holds 419 = .ok (.iconst 0, 1) := by decide +kernel
theorem dL_holds_420 : decode cL_holds 420 = .ok (.invokevirtual 22, 3) := by decide +kernel
theorem dL_holds_423 : decode cL_holds 423 = .ok (.iload 11, 2) := by decide +kernel
theorem dL_holds_425 : decode cL_holds 425 = .ok (.isub, 1) := by decide +kernel
theorem dL_holds_426 : decode cL_holds 426 = .ok (.istore 13, 2) := by decide +kernel
theorem dL_holds_428 : decode cL_holds 428 = .ok (.aload_n 0, 1) := by decide +kernel
theorem dL_holds_429 : decode cL_holds 429 = .ok (.iconst 3, 1) := by decide +kernel
theorem dL_holds_430 : decode cL_holds 430 = .ok (.invokevirtual 12, 3) := by decide +kernel
theorem dL_holds_433 : decode cL_holds 433 = .ok (.iconst 1, 1) := by decide +kernel
theorem dL_holds_434 : decode cL_holds 434 = .ok (.if_icmp .ne 37, 3) := by decide +kernel
theorem dL_holds_437 : decode cL_holds 437 = .ok (.iload 9, 2) := by decide +kernel
theorem dL_holds_439 : decode cL_holds 439 = .ok (.iload 13, 2) := by decide +kernel
theorem dL_holds_441 : decode cL_holds 441 = .ok (.aload_n 0, 1) := by decide +kernel
theorem dL_holds_442 : decode cL_holds 442 = .ok (.iconst 4, 1) := by decide +kernel
theorem dL_holds_443 : decode cL_holds 443 = .ok (.invokevirtual 12, 3) := by decide +kernel
theorem dL_holds_446 : decode cL_holds 446 = .ok (.iload 10, 2) := by decide +kernel
theorem dL_holds_448 : decode cL_holds 448 = .ok (.if_icmp .ne 8, 3) := by decide +kernel
theorem dL_holds_451 : decode cL_holds 451 = .ok (.iload 12, 2) := by decide +kernel
theorem dL_holds_453 : decode cL_holds 453 = .ok (.goto 6, 3) := by decide +kernel
theorem dL_holds_456 : decode cL_holds 456 = .ok (.iload 12, 2) := by decide +kernel
theorem dL_holds_458 : decode cL_holds 458 = .ok (.ineg, 1) := by decide +kernel
theorem dL_holds_459 : decode cL_holds 459 = .ok (.iadd, 1) := by decide +kernel
theorem dL_holds_460 : decode cL_holds 460 = .ok (.if_icmp .ne 7, 3) := by decide +kernel
theorem dL_holds_463 : decode cL_holds 463 = .ok (.iconst 1, 1) := by decide +kernel
theorem dL_holds_464 : decode cL_holds 464 = .ok (.goto 28, 3) := by decide +kernel
theorem dL_holds_467 : decode cL_holds 467 = .ok (.iconst 0, 1) := by decide +kernel
theorem dL_holds_468 : decode cL_holds 468 = .ok (.goto 24, 3) := by decide +kernel
theorem dL_holds_471 : decode cL_holds 471 = .ok (.aload_n 0, 1) := by decide +kernel
theorem dL_holds_472 : decode cL_holds 472 = .ok (.invokevirtual 62, 3) := by decide +kernel
theorem dL_holds_475 : decode cL_holds 475 = .ok (.sipush 1000, 3) := by decide +kernel
theorem dL_holds_478 : decode cL_holds 478 = .ok (.isub, 1) := by decide +kernel
theorem dL_holds_479 : decode cL_holds 479 = .ok (.iload 13, 2) := by decide +kernel
theorem dL_holds_481 : decode cL_holds 481 = .ok (.iload 9, 2) := by decide +kernel
theorem dL_holds_483 : decode cL_holds 483 = .ok (.isub, 1) := by decide +kernel
theorem dL_holds_484 : decode cL_holds 484 = .ok (.if_icmp .ne 7, 3) := by decide +kernel
theorem dL_holds_487 : decode cL_holds 487 = .ok (.iconst 1, 1) := by decide +kernel
theorem dL_holds_488 : decode cL_holds 488 = .ok (.goto 4, 3) := by decide +kernel
theorem dL_holds_491 : decode cL_holds 491 = .ok (.iconst 0, 1) := by decide +kernel
theorem dL_holds_492 : decode cL_holds 492 = .ok (.istore 14, 2) := by decide +kernel
theorem dL_holds_494 : decode cL_holds 494 = .ok (.aload_n 0, 1) := by decide +kernel
theorem dL_holds_495 : decode cL_holds 495 = .ok (.invokevirtual 74, 3) := by decide +kernel
theorem dL_holds_498 : decode cL_holds 498 = .ok (.pop, 1) := by decide +kernel
theorem dL_holds_499 : decode cL_holds 499 = .ok (.iload 14, 2) := by decide +kernel
theorem dL_holds_501 : decode cL_holds 501 = .ok (.ireturn, 1) := by decide +kernel
set_option maxRecDepth 20000 in
theorem ggL_law_X8_init : GoodIn wsL_law wsX8_init := goodIn_r _ [5, 6, 7, 8, 9, 10, 11, 12, 13, 14, 15, 16, 17, 18, 19, 20, 21, 22, 23, 24, 25, 26, 27, 28, 29, 30, 31, 32, 33, 34, 35, 36, 37, 38, 39, 40, 41, 42, 43, 44, 45, 46, 47, 48, 49, 50, 51, 52, 53, 54, 55, 56, 57, 58, 59, 60, 61, 62, 63, 64, 65, 66, 67, 68, 69, 70, 71, 72, 73, 74, 75, 76, 77, 78, 79, 80, 81, 82, 83, 387, 388, 389, 390, 391, 392, 393, 394, 395, 396, 379, 380, 381, 382, 383, 384, 385, 386, 397, 398, 399, 400, 401, 402, 403, 404, 405, 406, 407, 408, 409, 410, 411, 412, 413, 414, 415, 416, 417, 418] (by decide +kernel) (by decide +kernel)
set_option maxRecDepth 20000 in
theorem gL_law_X8_init : GoodIn wsL_law (wsX8_init) := ggL_law_X8_init
set_option maxRecDepth 20000 in
theorem ggL_law_X8_undo : GoodIn wsL_law wsX8_undo := goodIn_r _ [87, 18, 12, 88, 17, 89, 90, 91, 59, 92, 11, 93, 94, 38, 39, 41, 95, 45, 46, 96, 97, 98, 99, 100, 48, 101, 102, 103, 104, 105, 106, 107, 44, 108, 109, 110, 111, 379, 380, 381, 382, 383, 384, 385, 386, 397, 398, 387, 388, 389, 390, 391, 392, 393, 394, 395, 396, 415, 416, 417, 418, 413, 414] (by decide +kernel) (by decide +kernel)
set_option maxRecDepth 20000 in
theorem gL_law_X8_undo : GoodIn wsL_law (wsV RL 74 RX8 yX8_undo wsX8_undo) := goodIn_app (goodIn_of _ (by decide +kernel)) ggL_law_X8_undo
set_option maxRecDepth 20000 in
theorem ggL_law_X8_restore : GoodIn wsL_law wsX8_restore := goodIn_r _ [115, 20, 13, 12, 92, 11, 93, 94, 38, 39, 41, 95, 45, 46, 96, 97, 98, 99, 100, 48, 101, 102, 103, 104, 105, 106, 107, 44, 108, 109, 110, 111, 116, 117, 118, 119, 120, 121, 2, 122, 18, 123, 17, 124, 125, 91, 59, 126, 127, 128, 129, 379, 380, 381, 382, 383, 384, 385, 386, 411, 412, 387, 388, 389, 390, 391, 392, 393, 394, 395, 396, 415, 416, 417, 418, 413, 414, 397, 398] (by decide +kernel) (by decide +kernel)
set_option maxRecDepth 20000 in
theorem gL_law_X8_restore : GoodIn wsL_law (wsV RL 53 RX8 yX8_restore wsX8_restore) := goodIn_app (goodIn_of _ (by decide +kernel)) ggL_law_X8_restore
set_option maxRecDepth 20000 in
theorem ggL_law_X8_save : GoodIn wsL_law wsX8_save := goodIn_r _ [133, 20, 12, 92, 11, 93, 94, 38, 39, 41, 95, 45, 46, 96, 97, 98, 99, 100, 48, 101, 102, 103, 104, 105, 106, 107, 44, 108, 109, 110, 111, 116, 117, 118, 379, 380, 381, 382, 383, 384, 385, 386, 411, 412, 387, 388, 389, 390, 391, 392, 393, 394, 395, 396, 415, 416, 417, 418, 413, 414] (by decide +kernel) (by decide +kernel)
set_option maxRecDepth 20000 in
theorem gL_law_X8_save : GoodIn wsL_law (wsV RL 78 RX8 yX8_save wsX8_save) := goodIn_app (goodIn_of _ (by decide +kernel)) ggL_law_X8_save
set_option maxRecDepth 20000 in
theorem ggL_law_L_told : GoodIn wsL_law wsL_told := goodIn_r _ [137, 138, 139, 140, 141, 142, 2, 143, 12, 32, 18, 116, 11, 117, 118, 41, 144, 145, 146, 147, 148, 149, 150, 99, 38, 96, 98, 151, 152, 153, 154, 155, 156, 157, 45, 46, 158, 159, 160, 161, 162, 163, 164, 165, 166, 28, 167, 168, 169, 95, 170, 27, 171, 172, 73, 173, 174, 175, 176, 177, 178, 179, 180, 181, 182, 183, 184, 185, 186, 187, 188, 189, 190, 191, 192, 193, 39, 194, 195, 196, 197, 198, 379, 380, 381, 382, 383, 384, 385, 386, 387, 388, 389, 390, 391, 392, 393, 394, 395, 396, 409, 410, 397, 398, 415, 416, 417, 418, 413, 414, 407, 408] (by decide +kernel) (by decide +kernel)
set_option maxRecDepth 20000 in
theorem gL_law_L_told : GoodIn wsL_law (va_wsS RL 81 yL_told wsL_told) := goodIn_app (goodIn_of _ (by decide +kernel)) ggL_law_L_told
set_option maxRecDepth 20000 in
theorem ggL_law_L_cell : GoodIn wsL_law wsL_cell := goodIn_r _ [201] (by decide +kernel) (by decide +kernel)
set_option maxRecDepth 20000 in
theorem gL_law_L_cell : GoodIn wsL_law (va_wsS RL 85 yL_cell wsL_cell) := goodIn_app (goodIn_of _ (by decide +kernel)) ggL_law_L_cell
set_option maxRecDepth 20000 in
theorem ggL_law_X8_count : GoodIn wsL_law wsX8_count := goodIn_r _ [143, 12, 32, 18, 116, 11, 117, 118, 41, 144, 145, 146, 147, 148, 149, 150, 99, 38, 96, 98, 151, 152, 2, 153, 154, 155, 156, 157, 45, 46, 158, 159, 160, 161, 162, 379, 380, 381, 382, 383, 384, 385, 386, 387, 388, 389, 390, 391, 392, 393, 394, 395, 396, 409, 410, 397, 398, 415, 416, 417, 418, 413, 414] (by decide +kernel) (by decide +kernel)
set_option maxRecDepth 20000 in
theorem gL_law_X8_count : GoodIn wsL_law (wsV RL 12 RX8 yX8_count wsX8_count) := goodIn_app (goodIn_of _ (by decide +kernel)) ggL_law_X8_count
set_option maxRecDepth 20000 in
theorem ggL_law_L_act : GoodIn wsL_law wsL_act := goodIn_r _ [204, 140, 141, 142, 2, 143, 12, 32, 18, 116, 11, 117, 118, 41, 144, 145, 146, 147, 148, 149, 150, 99, 38, 96, 98, 151, 152, 153, 154, 155, 156, 157, 45, 46, 158, 159, 160, 161, 162, 205, 206, 136, 207, 208, 209, 210, 211, 212, 13, 92, 93, 94, 39, 95, 97, 100, 48, 101, 102, 103, 104, 105, 106, 107, 44, 108, 109, 110, 111, 213, 214, 215, 216, 217, 218, 219, 119, 120, 121, 122, 123, 17, 124, 125, 91, 59, 126, 127, 128, 129, 220, 221, 222, 223, 224, 225, 226, 227, 228, 229, 230, 231, 232, 233, 234, 235, 236, 237, 238, 239, 240, 241, 242, 243, 244, 245, 246, 247, 248, 249, 250, 251, 252, 253, 182, 183, 254, 255, 256, 257, 258, 259, 260, 261, 262, 263, 264, 265, 266, 267, 268, 24, 269, 23, 270, 271, 68, 272, 273, 274, 275, 276, 277, 278, 279, 69, 64, 65, 280, 281, 282, 283, 284, 285, 286, 287, 288, 289, 290, 67, 291, 292, 293, 294, 295, 296, 297, 298, 299, 300, 301, 302, 303, 304, 305, 306, 307, 308, 66, 309, 310, 311, 312, 313, 314, 315, 316, 317, 318, 319, 320, 321, 322, 323, 324, 325, 326, 327, 328, 329, 167, 168, 169, 112, 113, 114, 115, 20, 330, 331, 332, 333, 334, 335, 336, 337, 338, 379, 380, 381, 382, 383, 384, 385, 386, 387, 388, 389, 390, 391, 392, 393, 394, 395, 396, 409, 410, 397, 398, 415, 416, 417, 418, 413, 414, 399, 400, 401, 402, 403, 404, 405, 406, 411, 412] (by decide +kernel) (by decide +kernel)
set_option maxRecDepth 20000 in
theorem gL_law_L_act : GoodIn wsL_law (va_wsS RL 89 yL_act wsL_act) := goodIn_app (goodIn_of _ (by decide +kernel)) ggL_law_L_act
