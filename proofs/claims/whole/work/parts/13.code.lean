theorem dX8_carryOut_9 : decode cX8_carryOut 9 = .ok (.if_icmp .eq 6, 3) := by decide +kernel
theorem dX8_carryOut_12 : decode cX8_carryOut 12 = .ok (.bipush (-3), 2) := by decide +kernel
theorem dX8_carryOut_14 : decode cX8_carryOut 14 = .ok (.ireturn, 1) := by decide +kernel
theorem dX8_carryOut_15 : decode cX8_carryOut 15 = .ok (.aload_n 0, 1) := by decide +kernel
theorem dX8_carryOut_16 : decode cX8_carryOut 16 = .ok (.getfield 16, 3) := by decide +kernel
theorem dX8_carryOut_19 : decode cX8_carryOut 19 = .ok (.aload_n 0, 1) := by decide +kernel
theorem dX8_carryOut_20 : decode cX8_carryOut 20 = .ok (.getfield 12, 3) := by decide +kernel
theorem dX8_carryOut_23 : decode cX8_carryOut 23 = .ok (.invokevirtual 57, 3) := by decide +kernel
theorem dX8_carryOut_26 : decode cX8_carryOut 26 = .ok (.iconst 0, 1) := by decide +kernel
theorem dX8_carryOut_27 : decode cX8_carryOut 27 = .ok (.istore_n 1, 1) := by decide +kernel
theorem dX8_carryOut_28 : decode cX8_carryOut 28 = .ok (.iconst 0, 1) := by decide +kernel
theorem dX8_carryOut_29 : decode cX8_carryOut 29 = .ok (.istore_n 2, 1) := by decide +kernel
theorem dX8_carryOut_30 : decode cX8_carryOut 30 = .ok (.iload_n 2, 1) := by decide +kernel
theorem dX8_carryOut_31 : decode cX8_carryOut 31 = .ok (.aload_n 0, 1) := by decide +kernel
theorem dX8_carryOut_32 : decode cX8_carryOut 32 = .ok (.getfield 52, 3) := by decide +kernel
theorem dX8_carryOut_35 : decode cX8_carryOut 35 = .ok (.getfield 159, 3) := by decide +kernel
theorem dX8_carryOut_38 : decode cX8_carryOut 38 = .ok (.if_icmp .ge 34, 3) := by decide +kernel
theorem dX8_carryOut_41 : decode cX8_carryOut 41 = .ok (.aload_n 0, 1) := by decide +kernel
theorem dX8_carryOut_42 : decode cX8_carryOut 42 = .ok (.getfield 52, 3) := by decide +kernel
theorem dX8_carryOut_45 : decode cX8_carryOut 45 = .ok (.iload_n 2, 1) := by decide +kernel
theorem dX8_carryOut_46 : decode cX8_carryOut 46 = .ok (.invokevirtual 203, 3) := by decide +kernel
theorem dX8_carryOut_49 : decode cX8_carryOut 49 = .ok (.ifCond .eq 17, 3) := by decide +kernel
theorem dX8_carryOut_52 : decode cX8_carryOut 52 = .ok (.aload_n 0, 1) := by decide +kernel
theorem dX8_carryOut_53 : decode cX8_carryOut 53 = .ok (.iload_n 2, 1) := by decide +kernel
theorem dX8_carryOut_54 : decode cX8_carryOut 54 = .ok (.invokevirtual 206, 3) := by decide +kernel
theorem dX8_carryOut_57 : decode cX8_carryOut 57 = .ok (.ifCond .ge 6, 3) := by decide +kernel
theorem dX8_carryOut_60 : decode cX8_carryOut 60 = .ok (.goto 12, 3) := by decide +kernel
theorem dX8_carryOut_63 : decode cX8_carryOut 63 = .ok (.iinc 1 1, 3) := by decide +kernel
theorem dX8_carryOut_66 : decode cX8_carryOut 66 = .ok (.iinc 2 1, 3) := by decide +kernel
theorem dX8_carryOut_69 : decode cX8_carryOut 69 = .ok (.goto (-39), 3) := by decide +kernel
theorem dX8_carryOut_72 : decode cX8_carryOut 72 = .ok (.aload_n 0, 1) := by decide +kernel
theorem dX8_carryOut_73 : decode cX8_carryOut 73 = .ok (.getfield 52, 3) := by decide +kernel
theorem dX8_carryOut_76 : decode cX8_carryOut 76 = .ok (.iconst 0, 1) := by decide +kernel
theorem dX8_carryOut_77 : decode cX8_carryOut 77 = .ok (.putfield 159, 3) := by decide +kernel
theorem dX8_carryOut_80 : decode cX8_carryOut 80 = .ok (.aload_n 0, 1) := by decide +kernel
theorem dX8_carryOut_81 : decode cX8_carryOut 81 = .ok (.iload_n 1, 1) := by decide +kernel
theorem dX8_carryOut_82 : decode cX8_carryOut 82 = .ok (.invokevirtual 65, 3) := by decide +kernel
theorem dX8_carryOut_85 : decode cX8_carryOut 85 = .ok (.ireturn, 1) := by decide +kernel
set_option maxRecDepth 20000 in
theorem ggX8_undo_X1_takeBack : GoodIn wsX8_undo wsX1_takeBack := goodIn_r _ [6, 7, 8, 9, 10, 11, 12, 13, 14, 15, 16, 17, 18, 19, 20, 21, 22, 23, 24, 25, 26, 27, 28, 29, 30, 31, 32, 33, 34, 35, 36, 45, 46, 47, 48, 49, 50, 51, 52, 53, 54, 55, 56, 57, 58, 59, 60, 61, 62] (by decide +kernel) (by decide +kernel)
set_option maxRecDepth 20000 in
theorem gX8_undo_X1_takeBack_n209 : GoodIn wsX8_undo (wsX1_takeBack) := ggX8_undo_X1_takeBack
theorem dX8_undo_0 : decode cX8_undo 0 = .ok (.aload_n 0, 1) := by decide +kernel
theorem dX8_undo_1 : decode cX8_undo 1 = .ok (.getfield 25, 3) := by decide +kernel
theorem dX8_undo_4 : decode cX8_undo 4 = .ok (.aload_n 0, 1) := by decide +kernel
theorem dX8_undo_5 : decode cX8_undo 5 = .ok (.getfield 12, 3) := by decide +kernel
theorem dX8_undo_8 : decode cX8_undo 8 = .ok (.invokevirtual 209, 3) := by decide +kernel
theorem dX8_undo_11 : decode cX8_undo 11 = .ok (.ifCond .eq 13, 3) := by decide +kernel
theorem dX8_undo_14 : decode cX8_undo 14 = .ok (.aload_n 0, 1) := by decide +kernel
theorem dX8_undo_15 : decode cX8_undo 15 = .ok (.getfield 25, 3) := by decide +kernel
theorem dX8_undo_18 : decode cX8_undo 18 = .ok (.getfield 162, 3) := by decide +kernel
theorem dX8_undo_21 : decode cX8_undo 21 = .ok (.goto 5, 3) := by decide +kernel
theorem dX8_undo_24 : decode cX8_undo 24 = .ok (.bipush (-5), 2) := by decide +kernel
theorem dX8_undo_26 : decode cX8_undo 26 = .ok (.ireturn, 1) := by decide +kernel
set_option maxRecDepth 20000 in
theorem ggX8_save_X0_copyFrom : GoodIn wsX8_save wsX0_copyFrom := goodIn_r _ [6, 7, 8, 9, 10, 11, 12, 13, 14, 15, 16, 17, 18, 19, 20, 21, 22, 23, 24, 25, 26, 27, 28, 29, 30, 44, 45, 46, 47, 48, 49, 50, 51, 52, 53, 54, 55, 56, 57, 58, 59] (by decide +kernel) (by decide +kernel)
set_option maxRecDepth 20000 in
theorem gX8_save_X0_copyFrom_n57 : GoodIn wsX8_save (wsX0_copyFrom) := ggX8_save_X0_copyFrom
set_option maxRecDepth 20000 in
theorem ggX8_save_X0_tokenSum : GoodIn wsX8_save wsX0_tokenSum := goodIn_r _ [33, 9, 44, 45, 46, 47, 48, 49, 50, 51, 52, 53, 54, 55, 56, 57] (by decide +kernel) (by decide +kernel)
set_option maxRecDepth 20000 in
theorem gX8_save_X0_tokenSum_n79 : GoodIn wsX8_save (wsX0_tokenSum) := ggX8_save_X0_tokenSum
theorem dX8_save_0 : decode cX8_save 0 = .ok (.iload_n 1, 1) := by decide +kernel
theorem dX8_save_1 : decode cX8_save 1 = .ok (.ifCond .lt 12, 3) := by decide +kernel
theorem dX8_save_4 : decode cX8_save 4 = .ok (.iload_n 1, 1) := by decide +kernel
theorem dX8_save_5 : decode cX8_save 5 = .ok (.aload_n 0, 1) := by decide +kernel
theorem dX8_save_6 : decode cX8_save 6 = .ok (.getfield 31, 3) := by decide +kernel
theorem dX8_save_9 : decode cX8_save 9 = .ok (.arraylength, 1) := by decide +kernel
theorem dX8_save_10 : decode cX8_save 10 = .ok (.if_icmp .lt 6, 3) := by decide +kernel
theorem dX8_save_13 : decode cX8_save 13 = .ok (.bipush (-2), 2) := by decide +kernel
theorem dX8_save_15 : decode cX8_save 15 = .ok (.ireturn, 1) := by decide +kernel
theorem dX8_save_16 : decode cX8_save 16 = .ok (.aload_n 0, 1) := by decide +kernel
theorem dX8_save_17 : decode cX8_save 17 = .ok (.getfield 31, 3) := by decide +kernel
theorem dX8_save_20 : decode cX8_save 20 = .ok (.iload_n 1, 1) := by decide +kernel
theorem dX8_save_21 : decode cX8_save 21 = .ok (.aaload, 1) := by decide +kernel
theorem dX8_save_22 : decode cX8_save 22 = .ok (.getfield 212, 3) := by decide +kernel
theorem dX8_save_25 : decode cX8_save 25 = .ok (.aload_n 0, 1) := by decide +kernel
theorem dX8_save_26 : decode cX8_save 26 = .ok (.getfield 12, 3) := by decide +kernel
theorem dX8_save_29 : decode cX8_save 29 = .ok (.invokevirtual 57, 3) := by decide +kernel
theorem dX8_save_32 : decode cX8_save 32 = .ok (.aload_n 0, 1) := by decide +kernel
theorem dX8_save_33 : decode cX8_save 33 = .ok (.getfield 31, 3) := by decide +kernel
theorem dX8_save_36 : decode cX8_save 36 = .ok (.iload_n 1, 1) := by decide +kernel
theorem dX8_save_37 : decode cX8_save 37 = .ok (.aaload, 1) := by decide +kernel
theorem dX8_save_38 : decode cX8_save 38 = .ok (.iconst 1, 1) := by decide +kernel
theorem dX8_save_39 : decode cX8_save 39 = .ok (.putfield 215, 3) := by decide +kernel
theorem dX8_save_42 : decode cX8_save 42 = .ok (.aload_n 0, 1) := by decide +kernel
theorem dX8_save_43 : decode cX8_save 43 = .ok (.getfield 12, 3) := by decide +kernel
theorem dX8_save_46 : decode cX8_save 46 = .ok (.invokevirtual 79, 3) := by decide +kernel
theorem dX8_save_49 : decode cX8_save 49 = .ok (.ireturn, 1) := by decide +kernel
set_option maxRecDepth 20000 in
theorem ggX8_restore_X0_copyFrom : GoodIn wsX8_restore wsX0_copyFrom := goodIn_r _ [7, 8, 9, 10, 11, 12, 13, 14, 15, 16, 17, 18, 19, 20, 21, 22, 23, 24, 25, 26, 27, 28, 29, 30, 31, 61, 62, 63, 64, 65, 66, 67, 68, 69, 70, 71, 72, 73, 74, 75, 76] (by decide +kernel) (by decide +kernel)
set_option maxRecDepth 20000 in
theorem gX8_restore_X0_copyFrom_n57 : GoodIn wsX8_restore (wsX0_copyFrom) := ggX8_restore_X0_copyFrom
set_option maxRecDepth 20000 in
theorem ggX8_restore_X0_tokenSum : GoodIn wsX8_restore wsX0_tokenSum := goodIn_r _ [34, 10, 61, 62, 63, 64, 65, 66, 67, 68, 69, 70, 71, 72, 73, 74] (by decide +kernel) (by decide +kernel)
set_option maxRecDepth 20000 in
theorem gX8_restore_X0_tokenSum_n79 : GoodIn wsX8_restore (wsX0_tokenSum) := ggX8_restore_X0_tokenSum
set_option maxRecDepth 20000 in
theorem ggX8_restore_X8_recorded : GoodIn wsX8_restore wsX8_recorded := goodIn_r _ [39, 40, 2, 41, 42, 43, 44, 45, 46, 47, 48, 49, 50, 4, 5, 6, 7, 8, 9, 10, 11, 12, 13, 14, 15, 16, 17, 18, 19, 20, 21, 22, 23, 24, 25, 26, 27, 28, 29, 30, 31, 51, 52, 53, 54, 55, 56, 57, 58, 77, 78, 61, 62, 63, 64, 65, 66, 67, 68, 69, 70, 71, 72, 73, 74, 75, 76] (by decide +kernel) (by decide +kernel)
set_option maxRecDepth 20000 in
theorem gX8_restore_X8_recorded : GoodIn wsX8_restore (wsV RX8 65 RX8 yX8_recorded wsX8_recorded) := goodIn_app (goodIn_of _ (by decide +kernel)) ggX8_restore_X8_recorded
theorem dX8_restore_0 : decode cX8_restore 0 = .ok (.iload_n 1, 1) := by decide +kernel
theorem dX8_restore_1 : decode cX8_restore 1 = .ok (.ifCond .lt 12, 3) := by decide +kernel
theorem dX8_restore_4 : decode cX8_restore 4 = .ok (.iload_n 1, 1) := by decide +kernel
theorem dX8_restore_5 : decode cX8_restore 5 = .ok (.aload_n 0, 1) := by decide +kernel
theorem dX8_restore_6 : decode cX8_restore 6 = .ok (.getfield 31, 3) := by decide +kernel
theorem dX8_restore_9 : decode cX8_restore 9 = .ok (.arraylength, 1) := by decide +kernel
theorem dX8_restore_10 : decode cX8_restore 10 = .ok (.if_icmp .lt 6, 3) := by decide +kernel
theorem dX8_restore_13 : decode cX8_restore 13 = .ok (.bipush (-2), 2) := by decide +kernel
theorem dX8_restore_15 : decode cX8_restore 15 = .ok (.ireturn, 1) := by decide +kernel
theorem dX8_restore_16 : decode cX8_restore 16 = .ok (.aload_n 0, 1) := by decide +kernel
theorem dX8_restore_17 : decode cX8_restore 17 = .ok (.getfield 31, 3) := by decide +kernel
theorem dX8_restore_20 : decode cX8_restore 20 = .ok (.iload_n 1, 1) := by decide +kernel
theorem dX8_restore_21 : decode cX8_restore 21 = .ok (.aaload, 1) := by decide +kernel
theorem dX8_restore_22 : decode cX8_restore 22 = .ok (.getfield 215, 3) := by decide +kernel
theorem dX8_restore_25 : decode cX8_restore 25 = .ok (.ifCond .ne 6, 3) := by decide +kernel
theorem dX8_restore_28 : decode cX8_restore 28 = .ok (.bipush (-5), 2) := by decide +kernel
theorem dX8_restore_30 : decode cX8_restore 30 = .ok (.ireturn, 1) := by decide +kernel
theorem dX8_restore_31 : decode cX8_restore 31 = .ok (.aload_n 0, 1) := by decide +kernel
theorem dX8_restore_32 : decode cX8_restore 32 = .ok (.getfield 16, 3) := by decide +kernel
theorem dX8_restore_35 : decode cX8_restore 35 = .ok (.aload_n 0, 1) := by decide +kernel
theorem dX8_restore_36 : decode cX8_restore 36 = .ok (.getfield 12, 3) := by decide +kernel
theorem dX8_restore_39 : decode cX8_restore 39 = .ok (.invokevirtual 57, 3) := by decide +kernel
theorem dX8_restore_42 : decode cX8_restore 42 = .ok (.aload_n 0, 1) := by decide +kernel
theorem dX8_restore_43 : decode cX8_restore 43 = .ok (.getfield 12, 3) := by decide +kernel
theorem dX8_restore_46 : decode cX8_restore 46 = .ok (.aload_n 0, 1) := by decide +kernel
theorem dX8_restore_47 : decode cX8_restore 47 = .ok (.getfield 31, 3) := by decide +kernel
theorem dX8_restore_50 : decode cX8_restore 50 = .ok (.iload_n 1, 1) := by decide +kernel
theorem dX8_restore_51 : decode cX8_restore 51 = .ok (.aaload, 1) := by decide +kernel
theorem dX8_restore_52 : decode cX8_restore 52 = .ok (.getfield 212, 3) := by decide +kernel
theorem dX8_restore_55 : decode cX8_restore 55 = .ok (.invokevirtual 57, 3) := by decide +kernel
theorem dX8_restore_58 : decode cX8_restore 58 = .ok (.aload_n 0, 1) := by decide +kernel
theorem dX8_restore_59 : decode cX8_restore 59 = .ok (.aload_n 0, 1) := by decide +kernel
theorem dX8_restore_60 : decode cX8_restore 60 = .ok (.getfield 12, 3) := by decide +kernel
theorem dX8_restore_63 : decode cX8_restore 63 = .ok (.invokevirtual 79, 3) := by decide +kernel
theorem dX8_restore_66 : decode cX8_restore 66 = .ok (.invokevirtual 65, 3) := by decide +kernel
theorem dX8_restore_69 : decode cX8_restore 69 = .ok (.ireturn, 1) := by decide +kernel
set_option maxRecDepth 20000 in
theorem ggX8_recorded_X1_add : GoodIn wsX8_recorded wsX1_add := goodIn_r _ [6, 7, 8, 9, 10, 11, 4, 12, 13, 14, 15, 16, 17, 18, 19, 20, 21, 22, 23, 24, 25, 26, 27, 28, 29, 30, 31, 32, 33, 34, 35, 36, 37, 38, 39, 40, 49, 50, 51, 52, 53, 54, 55, 56, 57, 58, 59, 60, 61, 62, 63, 64, 65, 66] (by decide +kernel) (by decide +kernel)
set_option maxRecDepth 20000 in
theorem gX8_recorded_X1_add_n218 : GoodIn wsX8_recorded (wsX1_add) := ggX8_recorded_X1_add
theorem dX8_recorded_0 : decode cX8_recorded 0 = .ok (.iload_n 1, 1) := by decide +kernel
theorem dX8_recorded_1 : decode cX8_recorded 1 = .ok (.ifCond .lt 14, 3) := by decide +kernel
theorem dX8_recorded_4 : decode cX8_recorded 4 = .ok (.aload_n 0, 1) := by decide +kernel
theorem dX8_recorded_5 : decode cX8_recorded 5 = .ok (.getfield 25, 3) := by decide +kernel
theorem dX8_recorded_8 : decode cX8_recorded 8 = .ok (.aload_n 0, 1) := by decide +kernel
theorem dX8_recorded_9 : decode cX8_recorded 9 = .ok (.getfield 16, 3) := by decide +kernel
theorem dX8_recorded_12 : decode cX8_recorded 12 = .ok (.invokevirtual 218, 3) := by decide +kernel
theorem dX8_recorded_15 : decode cX8_recorded 15 = .ok (.iload_n 1, 1) := by decide +kernel
theorem dX8_recorded_16 : decode cX8_recorded 16 = .ok (.ireturn, 1) := by decide +kernel
theorem dX8_changeSetting_0 : decode cX8_changeSetting 0 = .ok (.iload_n 1, 1) := by decide +kernel
theorem dX8_changeSetting_1 : decode cX8_changeSetting 1 = .ok (.ifCond .ne 32, 3) := by decide +kernel
theorem dX8_changeSetting_4 : decode cX8_changeSetting 4 = .ok (.iload_n 2, 1) := by decide +kernel
theorem dX8_changeSetting_5 : decode cX8_changeSetting 5 = .ok (.iconst 1, 1) := by decide +kernel
theorem dX8_changeSetting_6 : decode cX8_changeSetting 6 = .ok (.if_icmp .lt 27, 3) := by decide +kernel
theorem dX8_changeSetting_9 : decode cX8_changeSetting 9 = .ok (.iload_n 2, 1) := by decide +kernel
theorem dX8_changeSetting_10 : decode cX8_changeSetting 10 = .ok (.bipush 31, 2) := by decide +kernel
theorem dX8_changeSetting_12 : decode cX8_changeSetting 12 = .ok (.if_icmp .gt 21, 3) := by decide +kernel
theorem dX8_changeSetting_15 : decode cX8_changeSetting 15 = .ok (.aload_n 0, 1) := by decide +kernel
theorem dX8_changeSetting_16 : decode cX8_changeSetting 16 = .ok (.getfield 12, 3) := by decide +kernel
theorem dX8_changeSetting_19 : decode cX8_changeSetting 19 = .ok (.getfield 116, 3) := by decide +kernel
theorem dX8_changeSetting_22 : decode cX8_changeSetting 22 = .ok (.istore_n 3, 1) := by decide +kernel
theorem dX8_changeSetting_23 : decode cX8_changeSetting 23 = .ok (.aload_n 0, 1) := by decide +kernel
theorem dX8_changeSetting_24 : decode cX8_changeSetting 24 = .ok (.getfield 12, 3) := by decide +kernel
theorem dX8_changeSetting_27 : decode cX8_changeSetting 27 = .ok (.iload_n 2, 1) := by decide +kernel
theorem dX8_changeSetting_28 : decode cX8_changeSetting 28 = .ok (.putfield 116, 3) := by decide +kernel
theorem dX8_changeSetting_31 : decode cX8_changeSetting 31 = .ok (.iload_n 3, 1) := by decide +kernel
theorem dX8_changeSetting_32 : decode cX8_changeSetting 32 = .ok (.ireturn, 1) := by decide +kernel
theorem dX8_changeSetting_33 : decode cX8_changeSetting 33 = .ok (.iload_n 1, 1) := by decide +kernel
theorem dX8_changeSetting_34 : decode cX8_changeSetting 34 = .ok (.iconst 1, 1) := by decide +kernel
theorem dX8_changeSetting_35 : decode cX8_changeSetting 35 = .ok (.if_icmp .ne 31, 3) := by decide +kernel
theorem dX8_changeSetting_38 : decode cX8_changeSetting 38 = .ok (.iload_n 2, 1) := by decide +kernel
theorem dX8_changeSetting_39 : decode cX8_changeSetting 39 = .ok (.ifCond .lt 27, 3) := by decide +kernel
theorem dX8_changeSetting_42 : decode cX8_changeSetting 42 = .ok (.iload_n 2, 1) := by decide +kernel
theorem dX8_changeSetting_43 : decode cX8_changeSetting 43 = .ok (.bipush 99, 2) := by decide +kernel
theorem dX8_changeSetting_45 : decode cX8_changeSetting 45 = .ok (.if_icmp .gt 21, 3) := by decide +kernel
theorem dX8_changeSetting_48 : decode cX8_changeSetting 48 = .ok (.aload_n 0, 1) := by decide +kernel
theorem dX8_changeSetting_49 : decode cX8_changeSetting 49 = .ok (.getfield 12, 3) := by decide +kernel
theorem dX8_changeSetting_52 : decode cX8_changeSetting 52 = .ok (.getfield 156, 3) := by decide +kernel
theorem dX8_changeSetting_55 : decode cX8_changeSetting 55 = .ok (.istore_n 3, 1) := by decide +kernel
theorem dX8_changeSetting_56 : decode cX8_changeSetting 56 = .ok (.aload_n 0, 1) := by decide +kernel
theorem dX8_changeSetting_57 : decode cX8_changeSetting 57 = .ok (.getfield 12, 3) := by decide +kernel
theorem dX8_changeSetting_60 : decode cX8_changeSetting 60 = .ok (.iload_n 2, 1) := by decide +kernel
theorem dX8_changeSetting_61 : decode cX8_changeSetting 61 = .ok (.putfield 156, 3) := by decide +kernel
theorem dX8_changeSetting_64 : decode cX8_changeSetting 64 = .ok (.iload_n 3, 1) := by decide +kernel
theorem dX8_changeSetting_65 : decode cX8_changeSetting 65 = .ok (.ireturn, 1) := by decide +kernel
theorem dX8_changeSetting_66 : decode cX8_changeSetting 66 = .ok (.bipush (-2), 2) := by decide +kernel
theorem dX8_changeSetting_68 : decode cX8_changeSetting 68 = .ok (.ireturn, 1) := by decide +kernel
set_option maxRecDepth 20000 in
theorem ggX8_addPile_X3_fill : GoodIn wsX8_addPile wsX3_fill := goodIn_r _ [5, 6, 7, 8, 9, 28, 29, 30, 31] (by decide +kernel) (by decide +kernel)
set_option maxRecDepth 20000 in
theorem gX8_addPile_X3_fill_n221 : GoodIn wsX8_addPile (wsX3_fill) := ggX8_addPile_X3_fill
theorem dX8_addPile_0 : decode cX8_addPile 0 = .ok (.iload_n 1, 1) := by decide +kernel
theorem dX8_addPile_1 : decode cX8_addPile 1 = .ok (.ifCond .lt 18, 3) := by decide +kernel
theorem dX8_addPile_4 : decode cX8_addPile 4 = .ok (.iload_n 1, 1) := by decide +kernel
theorem dX8_addPile_5 : decode cX8_addPile 5 = .ok (.iconst 5, 1) := by decide +kernel
theorem dX8_addPile_6 : decode cX8_addPile 6 = .ok (.if_icmp .gt 13, 3) := by decide +kernel
theorem dX8_addPile_9 : decode cX8_addPile 9 = .ok (.iload_n 2, 1) := by decide +kernel
theorem dX8_addPile_10 : decode cX8_addPile 10 = .ok (.ifCond .lt 9, 3) := by decide +kernel
theorem dX8_addPile_13 : decode cX8_addPile 13 = .ok (.iload_n 2, 1) := by decide +kernel
theorem dX8_addPile_14 : decode cX8_addPile 14 = .ok (.bipush 9, 2) := by decide +kernel
theorem dX8_addPile_16 : decode cX8_addPile 16 = .ok (.if_icmp .le 6, 3) := by decide +kernel
theorem dX8_addPile_19 : decode cX8_addPile 19 = .ok (.bipush (-2), 2) := by decide +kernel
theorem dX8_addPile_21 : decode cX8_addPile 21 = .ok (.ireturn, 1) := by decide +kernel
theorem dX8_addPile_22 : decode cX8_addPile 22 = .ok (.iload_n 3, 1) := by decide +kernel
theorem dX8_addPile_23 : decode cX8_addPile 23 = .ok (.ifCond .eq 11, 3) := by decide +kernel
theorem dX8_addPile_26 : decode cX8_addPile 26 = .ok (.iload_n 3, 1) := by decide +kernel
theorem dX8_addPile_27 : decode cX8_addPile 27 = .ok (.iconst 1, 1) := by decide +kernel
theorem dX8_addPile_28 : decode cX8_addPile 28 = .ok (.if_icmp .eq 6, 3) := by decide +kernel
theorem dX8_addPile_31 : decode cX8_addPile 31 = .ok (.bipush (-2), 2) := by decide +kernel
theorem dX8_addPile_33 : decode cX8_addPile 33 = .ok (.ireturn, 1) := by decide +kernel
theorem dX8_addPile_34 : decode cX8_addPile 34 = .ok (.aload_n 0, 1) := by decide +kernel
theorem dX8_addPile_35 : decode cX8_addPile 35 = .ok (.getfield 12, 3) := by decide +kernel
theorem dX8_addPile_38 : decode cX8_addPile 38 = .ok (.getfield 137, 3) := by decide +kernel
theorem dX8_addPile_41 : decode cX8_addPile 41 = .ok (.istore 4, 2) := by decide +kernel
theorem dX8_addPile_43 : decode cX8_addPile 43 = .ok (.iload 4, 2) := by decide +kernel
theorem dX8_addPile_45 : decode cX8_addPile 45 = .ok (.ifCond .lt 16, 3) := by decide +kernel
theorem dX8_addPile_48 : decode cX8_addPile 48 = .ok (.iload 4, 2) := by decide +kernel
theorem dX8_addPile_50 : decode cX8_addPile 50 = .ok (.aload_n 0, 1) := by decide +kernel
theorem dX8_addPile_51 : decode cX8_addPile 51 = .ok (.getfield 12, 3) := by decide +kernel
theorem dX8_addPile_54 : decode cX8_addPile 54 = .ok (.getfield 96, 3) := by decide +kernel
theorem dX8_addPile_57 : decode cX8_addPile 57 = .ok (.arraylength, 1) := by decide +kernel
theorem dX8_addPile_58 : decode cX8_addPile 58 = .ok (.if_icmp .lt 6, 3) := by decide +kernel
theorem dX8_addPile_61 : decode cX8_addPile 61 = .ok (.bipush (-4), 2) := by decide +kernel
theorem dX8_addPile_63 : decode cX8_addPile 63 = .ok (.ireturn, 1) := by decide +kernel
theorem dX8_addPile_64 : decode cX8_addPile 64 = .ok (.aload_n 0, 1) := by decide +kernel
theorem dX8_addPile_65 : decode cX8_addPile 65 = .ok (.getfield 12, 3) := by decide +kernel
theorem dX8_addPile_68 : decode cX8_addPile 68 = .ok (.getfield 96, 3) := by decide +kernel
theorem dX8_addPile_71 : decode cX8_addPile 71 = .ok (.iload 4, 2) := by decide +kernel
theorem dX8_addPile_73 : decode cX8_addPile 73 = .ok (.aaload, 1) := by decide +kernel
theorem dX8_addPile_74 : decode cX8_addPile 74 = .ok (.iload_n 1, 1) := by decide +kernel
theorem dX8_addPile_75 : decode cX8_addPile 75 = .ok (.iload_n 2, 1) := by decide +kernel
theorem dX8_addPile_76 : decode cX8_addPile 76 = .ok (.iload_n 3, 1) := by decide +kernel
theorem dX8_addPile_77 : decode cX8_addPile 77 = .ok (.iconst 1, 1) := by decide +kernel
theorem dX8_addPile_78 : decode cX8_addPile 78 = .ok (.if_icmp .ne 7, 3) := by decide +kernel
theorem dX8_addPile_81 : decode cX8_addPile 81 = .ok (.iconst 1, 1) := by decide +kernel
theorem dX8_addPile_82 : decode cX8_addPile 82 = .ok (.goto 4, 3) := by decide +kernel
theorem dX8_addPile_85 : decode cX8_addPile 85 = .ok (.iconst 0, 1) := by decide +kernel
theorem dX8_addPile_86 : decode cX8_addPile 86 = .ok (.invokevirtual 221, 3) := by decide +kernel
theorem dX8_addPile_89 : decode cX8_addPile 89 = .ok (.aload_n 0, 1) := by decide +kernel
theorem dX8_addPile_90 : decode cX8_addPile 90 = .ok (.getfield 12, 3) := by decide +kernel
theorem dX8_addPile_93 : decode cX8_addPile 93 = .ok (.iload 4, 2) := by decide +kernel
theorem dX8_addPile_95 : decode cX8_addPile 95 = .ok (.iconst 1, 1) := by decide +kernel
theorem dX8_addPile_96 : decode cX8_addPile 96 = .ok (.iadd, 1) := by decide +kernel
theorem dX8_addPile_97 : decode cX8_addPile 97 = .ok (.putfield 137, 3) := by decide +kernel
theorem dX8_addPile_100 : decode cX8_addPile 100 = .ok (.iload 4, 2) := by decide +kernel
theorem dX8_addPile_102 : decode cX8_addPile 102 = .ok (.ireturn, 1) := by decide +kernel
theorem dX8_givePasses_0 : decode cX8_givePasses 0 = .ok (.iload_n 1, 1) := by decide +kernel
theorem dX8_givePasses_1 : decode cX8_givePasses 1 = .ok (.ifCond .lt 17, 3) := by decide +kernel
theorem dX8_givePasses_4 : decode cX8_givePasses 4 = .ok (.iload_n 1, 1) := by decide +kernel
theorem dX8_givePasses_5 : decode cX8_givePasses 5 = .ok (.iconst 2, 1) := by decide +kernel
theorem dX8_givePasses_6 : decode cX8_givePasses 6 = .ok (.if_icmp .gt 12, 3) := by decide +kernel
theorem dX8_givePasses_9 : decode cX8_givePasses 9 = .ok (.iload_n 2, 1) := by decide +kernel
theorem dX8_givePasses_10 : decode cX8_givePasses 10 = .ok (.ifCond .lt 8, 3) := by decide +kernel
theorem dX8_givePasses_13 : decode cX8_givePasses 13 = .ok (.iload_n 2, 1) := by decide +kernel
theorem dX8_givePasses_14 : decode cX8_givePasses 14 = .ok (.iconst 2, 1) := by decide +kernel
theorem dX8_givePasses_15 : decode cX8_givePasses 15 = .ok (.if_icmp .le 6, 3) := by decide +kernel
theorem dX8_givePasses_18 : decode cX8_givePasses 18 = .ok (.bipush (-2), 2) := by decide +kernel
theorem dX8_givePasses_20 : decode cX8_givePasses 20 = .ok (.ireturn, 1) := by decide +kernel
theorem dX8_givePasses_21 : decode cX8_givePasses 21 = .ok (.aload_n 0, 1) := by decide +kernel
theorem dX8_givePasses_22 : decode cX8_givePasses 22 = .ok (.getfield 12, 3) := by decide +kernel
theorem dX8_givePasses_25 : decode cX8_givePasses 25 = .ok (.getfield 225, 3) := by decide +kernel
theorem dX8_givePasses_28 : decode cX8_givePasses 28 = .ok (.getfield 131, 3) := by decide +kernel
theorem dX8_givePasses_31 : decode cX8_givePasses 31 = .ok (.aload_n 0, 1) := by decide +kernel
theorem dX8_givePasses_32 : decode cX8_givePasses 32 = .ok (.getfield 12, 3) := by decide +kernel
theorem dX8_givePasses_35 : decode cX8_givePasses 35 = .ok (.getfield 229, 3) := by decide +kernel
theorem dX8_givePasses_38 : decode cX8_givePasses 38 = .ok (.getfield 131, 3) := by decide +kernel
theorem dX8_givePasses_41 : decode cX8_givePasses 41 = .ok (.iadd, 1) := by decide +kernel
theorem dX8_givePasses_42 : decode cX8_givePasses 42 = .ok (.istore_n 3, 1) := by decide +kernel
theorem dX8_givePasses_43 : decode cX8_givePasses 43 = .ok (.aload_n 0, 1) := by decide +kernel
theorem dX8_givePasses_44 : decode cX8_givePasses 44 = .ok (.getfield 12, 3) := by decide +kernel
theorem dX8_givePasses_47 : decode cX8_givePasses 47 = .ok (.getfield 225, 3) := by decide +kernel
theorem dX8_givePasses_50 : decode cX8_givePasses 50 = .ok (.iload_n 1, 1) := by decide +kernel
theorem dX8_givePasses_51 : decode cX8_givePasses 51 = .ok (.putfield 131, 3) := by decide +kernel
theorem dX8_givePasses_54 : decode cX8_givePasses 54 = .ok (.aload_n 0, 1) := by decide +kernel
theorem dX8_givePasses_55 : decode cX8_givePasses 55 = .ok (.getfield 12, 3) := by decide +kernel
theorem dX8_givePasses_58 : decode cX8_givePasses 58 = .ok (.getfield 229, 3) := by decide +kernel
theorem dX8_givePasses_61 : decode cX8_givePasses 61 = .ok (.iload_n 2, 1) := by decide +kernel
theorem dX8_givePasses_62 : decode cX8_givePasses 62 = .ok (.putfield 131, 3) := by decide +kernel
theorem dX8_givePasses_65 : decode cX8_givePasses 65 = .ok (.iload_n 3, 1) := by decide +kernel
theorem dX8_givePasses_66 : decode cX8_givePasses 66 = .ok (.ireturn, 1) := by decide +kernel
set_option maxRecDepth 20000 in
theorem ggX8_takeTokens_X0_hasPile : GoodIn wsX8_takeTokens wsX0_hasPile := goodIn_r _ [5, 6, 7, 55, 56, 57, 58, 59, 60, 61, 62, 63, 64] (by decide +kernel) (by decide +kernel)
set_option maxRecDepth 20000 in
theorem gX8_takeTokens_X0_hasPile_n92 : GoodIn wsX8_takeTokens (wsX0_hasPile) := ggX8_takeTokens_X0_hasPile
set_option maxRecDepth 20000 in
theorem ggX8_takeTokens_X8_takeMove : GoodIn wsX8_takeTokens wsX8_takeMove := goodIn_r _ [11] (by decide +kernel) (by decide +kernel)
set_option maxRecDepth 20000 in
theorem gX8_takeTokens_X8_takeMove : GoodIn wsX8_takeTokens (va_wsS RX8 232 yX8_takeMove wsX8_takeMove) := goodIn_app (goodIn_of _ (by decide +kernel)) ggX8_takeTokens_X8_takeMove
set_option maxRecDepth 20000 in
theorem ggX8_takeTokens_X0_allows : GoodIn wsX8_takeTokens wsX0_allows := goodIn_r _ [14, 15, 16, 17, 3, 18, 19, 7, 20, 21, 22, 23, 24, 10, 25, 26, 27, 28, 29, 30, 31, 32, 33, 34, 35, 36, 37, 55, 56, 57, 58, 59, 60, 61, 62, 63, 64, 65, 66, 67, 68, 69, 70] (by decide +kernel) (by decide +kernel)
set_option maxRecDepth 20000 in
theorem gX8_takeTokens_X0_allows_n235 : GoodIn wsX8_takeTokens (wsX0_allows) := ggX8_takeTokens_X0_allows
set_option maxRecDepth 20000 in
theorem ggX8_takeTokens_X0_takeFrom : GoodIn wsX8_takeTokens wsX0_takeFrom := goodIn_r _ [40, 7, 21, 19, 41, 2, 4, 3, 5, 6, 26, 27, 28, 29, 30, 31, 42, 43, 44, 45, 22, 46, 55, 56, 57, 58, 59, 60, 61, 62, 63, 64, 65, 66, 67, 68, 69, 70] (by decide +kernel) (by decide +kernel)
set_option maxRecDepth 20000 in
theorem gX8_takeTokens_X0_takeFrom_n238 : GoodIn wsX8_takeTokens (wsX0_takeFrom) := ggX8_takeTokens_X0_takeFrom
theorem dX8_takeTokens_0 : decode cX8_takeTokens 0 = .ok (.aload_n 0, 1) := by decide +kernel
theorem dX8_takeTokens_1 : decode cX8_takeTokens 1 = .ok (.getfield 12, 3) := by decide +kernel
theorem dX8_takeTokens_4 : decode cX8_takeTokens 4 = .ok (.iload_n 1, 1) := by decide +kernel
theorem dX8_takeTokens_5 : decode cX8_takeTokens 5 = .ok (.invokevirtual 92, 3) := by decide +kernel
theorem dX8_takeTokens_8 : decode cX8_takeTokens 8 = .ok (.ifCond .ne 5, 3) := by decide +kernel
theorem dX8_takeTokens_11 : decode cX8_takeTokens 11 = .ok (.iconst (-1), 1) := by decide +kernel
theorem dX8_takeTokens_12 : decode cX8_takeTokens 12 = .ok (.ireturn, 1) := by decide +kernel
theorem dX8_takeTokens_13 : decode cX8_takeTokens 13 = .ok (.iload_n 2, 1) := by decide +kernel
theorem dX8_takeTokens_14 : decode cX8_takeTokens 14 = .ok (.iconst 1, 1) := by decide +kernel
theorem dX8_takeTokens_15 : decode cX8_takeTokens 15 = .ok (.if_icmp .lt 23, 3) := by decide +kernel
theorem dX8_takeTokens_18 : decode cX8_takeTokens 18 = .ok (.iload_n 2, 1) := by decide +kernel
theorem dX8_takeTokens_19 : decode cX8_takeTokens 19 = .ok (.iconst 5, 1) := by decide +kernel
theorem dX8_takeTokens_20 : decode cX8_takeTokens 20 = .ok (.if_icmp .gt 18, 3) := by decide +kernel
theorem dX8_takeTokens_23 : decode cX8_takeTokens 23 = .ok (.aload_n 0, 1) := by decide +kernel
theorem dX8_takeTokens_24 : decode cX8_takeTokens 24 = .ok (.getfield 12, 3) := by decide +kernel
theorem dX8_takeTokens_27 : decode cX8_takeTokens 27 = .ok (.iload_n 1, 1) := by decide +kernel
theorem dX8_takeTokens_28 : decode cX8_takeTokens 28 = .ok (.iload_n 2, 1) := by decide +kernel
theorem dX8_takeTokens_29 : decode cX8_takeTokens 29 = .ok (.invokestatic 232, 3) := by decide +kernel
theorem dX8_takeTokens_32 : decode cX8_takeTokens 32 = .ok (.invokevirtual 235, 3) := by decide +kernel
theorem dX8_takeTokens_35 : decode cX8_takeTokens 35 = .ok (.ifCond .ne 6, 3) := by decide +kernel
theorem dX8_takeTokens_38 : decode cX8_takeTokens 38 = .ok (.bipush (-5), 2) := by decide +kernel
theorem dX8_takeTokens_40 : decode cX8_takeTokens 40 = .ok (.ireturn, 1) := by decide +kernel
theorem dX8_takeTokens_41 : decode cX8_takeTokens 41 = .ok (.aload_n 0, 1) := by decide +kernel
theorem dX8_takeTokens_42 : decode cX8_takeTokens 42 = .ok (.getfield 12, 3) := by decide +kernel
theorem dX8_takeTokens_45 : decode cX8_takeTokens 45 = .ok (.iload_n 1, 1) := by decide +kernel
theorem dX8_takeTokens_46 : decode cX8_takeTokens 46 = .ok (.iload_n 2, 1) := by decide +kernel
theorem dX8_takeTokens_47 : decode cX8_takeTokens 47 = .ok (.invokevirtual 238, 3) := by decide +kernel
theorem dX8_takeTokens_50 : decode cX8_takeTokens 50 = .ok (.ireturn, 1) := by decide +kernel
set_option maxRecDepth 20000 in
theorem ggX8_usePass_X0_allows : GoodIn wsX8_usePass wsX0_allows := goodIn_r _ [5, 6, 7, 8, 3, 9, 10, 11, 12, 13, 14, 15, 16, 17, 18, 19, 20, 21, 22, 23, 24, 25, 26, 27, 28, 29, 30, 47, 48, 49, 50, 51, 52, 53, 54, 55, 56, 57, 58, 59, 60, 61, 62] (by decide +kernel) (by decide +kernel)
set_option maxRecDepth 20000 in
theorem gX8_usePass_X0_allows_n235 : GoodIn wsX8_usePass (wsX0_allows) := ggX8_usePass_X0_allows
set_option maxRecDepth 20000 in
theorem ggX8_usePass_X0_usePass : GoodIn wsX8_usePass wsX0_usePass := goodIn_r _ [33, 13, 19, 20, 21, 3, 22, 23, 24, 34, 35, 36, 37, 14, 38, 47, 48, 49, 50, 51, 52, 53, 54, 55, 56, 61, 62] (by decide +kernel) (by decide +kernel)
set_option maxRecDepth 20000 in
theorem gX8_usePass_X0_usePass_n241 : GoodIn wsX8_usePass (wsX0_usePass) := ggX8_usePass_X0_usePass
theorem dX8_usePass_0 : decode cX8_usePass 0 = .ok (.aload_n 0, 1) := by decide +kernel
theorem dX8_usePass_1 : decode cX8_usePass 1 = .ok (.getfield 12, 3) := by decide +kernel
theorem dX8_usePass_4 : decode cX8_usePass 4 = .ok (.bipush 20, 2) := by decide +kernel
theorem dX8_usePass_6 : decode cX8_usePass 6 = .ok (.invokevirtual 235, 3) := by decide +kernel
theorem dX8_usePass_9 : decode cX8_usePass 9 = .ok (.ifCond .eq 13, 3) := by decide +kernel
theorem dX8_usePass_12 : decode cX8_usePass 12 = .ok (.aload_n 0, 1) := by decide +kernel
theorem dX8_usePass_13 : decode cX8_usePass 13 = .ok (.getfield 12, 3) := by decide +kernel
theorem dX8_usePass_16 : decode cX8_usePass 16 = .ok (.invokevirtual 241, 3) := by decide +kernel
theorem dX8_usePass_19 : decode cX8_usePass 19 = .ok (.goto 5, 3) := by decide +kernel
theorem dX8_usePass_22 : decode cX8_usePass 22 = .ok (.bipush (-5), 2) := by decide +kernel
theorem dX8_usePass_24 : decode cX8_usePass 24 = .ok (.ireturn, 1) := by decide +kernel
set_option maxRecDepth 20000 in
theorem ggX8_playOn_X0_isOver : GoodIn wsX8_playOn wsX0_isOver := goodIn_r _ [6, 7, 8, 9, 4, 10, 11, 12, 13, 14, 15, 16, 17, 18, 19, 20, 21, 22, 23, 24, 25, 26, 27, 28, 29, 123, 124, 125, 126, 127, 128, 129, 130, 131, 132, 133, 134, 135, 136, 137, 138] (by decide +kernel) (by decide +kernel)
set_option maxRecDepth 20000 in
theorem gX8_playOn_X0_isOver_n143 : GoodIn wsX8_playOn (wsX0_isOver) := ggX8_playOn_X0_isOver
set_option maxRecDepth 20000 in
theorem ggX8_playOn_X7_bestMove : GoodIn wsX8_playOn wsX7_bestMove := goodIn_r _ [33, 34, 35, 36, 37, 31, 38, 39, 40, 41, 42, 43, 44, 45, 46, 47, 48, 49, 50, 51, 52, 53, 54, 55, 56, 57, 58, 18, 59, 21, 4, 22, 23, 24, 25, 60, 61, 62, 63, 64, 17, 19, 65, 66, 67, 68, 69, 70, 71, 72, 73, 74, 75, 76, 77, 78, 79, 80, 81, 82, 83, 84, 85, 86, 87, 88, 89, 123, 124, 125, 126, 127, 128, 129, 130, 131, 132, 133, 134, 135, 136, 137, 138, 139, 140, 141, 142, 143, 144, 145, 146] (by decide +kernel) (by decide +kernel)
set_option maxRecDepth 20000 in
theorem gX8_playOn_X7_bestMove_n179 : GoodIn wsX8_playOn (wsX7_bestMove) := ggX8_playOn_X7_bestMove
set_option maxRecDepth 20000 in
theorem ggX8_playOn_X0_make : GoodIn wsX8_playOn wsX0_make := goodIn_r _ [92, 93, 94, 95, 4, 96, 7, 8, 9, 10, 11, 12, 13, 14, 15, 16, 17, 18, 19, 20, 21, 22, 23, 24, 25, 26, 27, 28, 29, 69, 70, 97, 98, 99, 100, 101, 102, 103, 104, 105, 106, 107, 108, 109, 110, 111, 112, 113, 114, 123, 124, 125, 126, 127, 128, 129, 130, 131, 132, 133, 134, 135, 136, 137, 138] (by decide +kernel) (by decide +kernel)
set_option maxRecDepth 20000 in
theorem gX8_playOn_X0_make_n242 : GoodIn wsX8_playOn (wsX0_make) := ggX8_playOn_X0_make
theorem dX8_playOn_0 : decode cX8_playOn 0 = .ok (.iload_n 1, 1) := by decide +kernel
theorem dX8_playOn_1 : decode cX8_playOn 1 = .ok (.iconst 1, 1) := by decide +kernel
theorem dX8_playOn_2 : decode cX8_playOn 2 = .ok (.if_icmp .lt 9, 3) := by decide +kernel
theorem dX8_playOn_5 : decode cX8_playOn 5 = .ok (.iload_n 1, 1) := by decide +kernel
theorem dX8_playOn_6 : decode cX8_playOn 6 = .ok (.bipush 40, 2) := by decide +kernel
theorem dX8_playOn_8 : decode cX8_playOn 8 = .ok (.if_icmp .le 6, 3) := by decide +kernel
theorem dX8_playOn_11 : decode cX8_playOn 11 = .ok (.bipush (-2), 2) := by decide +kernel
theorem dX8_playOn_13 : decode cX8_playOn 13 = .ok (.ireturn, 1) := by decide +kernel
theorem dX8_playOn_14 : decode cX8_playOn 14 = .ok (.aload_n 0, 1) := by decide +kernel
theorem dX8_playOn_15 : decode cX8_playOn 15 = .ok (.getfield 12, 3) := by decide +kernel
theorem dX8_playOn_18 : decode cX8_playOn 18 = .ok (.invokevirtual 143, 3) := by decide +kernel
theorem dX8_playOn_21 : decode cX8_playOn 21 = .ok (.ifCond .eq 6, 3) := by decide +kernel
theorem dX8_playOn_24 : decode cX8_playOn 24 = .ok (.bipush (-5), 2) := by decide +kernel
theorem dX8_playOn_26 : decode cX8_playOn 26 = .ok (.ireturn, 1) := by decide +kernel
theorem dX8_playOn_27 : decode cX8_playOn 27 = .ok (.iconst 0, 1) := by decide +kernel
theorem dX8_playOn_28 : decode cX8_playOn 28 = .ok (.istore_n 2, 1) := by decide +kernel
theorem dX8_playOn_29 : decode cX8_playOn 29 = .ok (.iload_n 2, 1) := by decide +kernel
theorem dX8_playOn_30 : decode cX8_playOn 30 = .ok (.iload_n 1, 1) := by decide +kernel
theorem dX8_playOn_31 : decode cX8_playOn 31 = .ok (.if_icmp .ge 37, 3) := by decide +kernel
theorem dX8_playOn_34 : decode cX8_playOn 34 = .ok (.aload_n 0, 1) := by decide +kernel
theorem dX8_playOn_35 : decode cX8_playOn 35 = .ok (.getfield 12, 3) := by decide +kernel
theorem dX8_playOn_38 : decode cX8_playOn 38 = .ok (.invokevirtual 143, 3) := by decide +kernel
theorem dX8_playOn_41 : decode cX8_playOn 41 = .ok (.ifCond .ne 27, 3) := by decide +kernel
theorem dX8_playOn_44 : decode cX8_playOn 44 = .ok (.aload_n 0, 1) := by decide +kernel
theorem dX8_playOn_45 : decode cX8_playOn 45 = .ok (.getfield 12, 3) := by decide +kernel
theorem dX8_playOn_48 : decode cX8_playOn 48 = .ok (.aload_n 0, 1) := by decide +kernel
theorem dX8_playOn_49 : decode cX8_playOn 49 = .ok (.getfield 38, 3) := by decide +kernel
theorem dX8_playOn_52 : decode cX8_playOn 52 = .ok (.aload_n 0, 1) := by decide +kernel
theorem dX8_playOn_53 : decode cX8_playOn 53 = .ok (.getfield 12, 3) := by decide +kernel
theorem dX8_playOn_56 : decode cX8_playOn 56 = .ok (.invokevirtual 179, 3) := by decide +kernel
theorem dX8_playOn_59 : decode cX8_playOn 59 = .ok (.invokevirtual 242, 3) := by decide +kernel
theorem dX8_playOn_62 : decode cX8_playOn 62 = .ok (.iinc 2 1, 3) := by decide +kernel
theorem dX8_playOn_65 : decode cX8_playOn 65 = .ok (.goto (-36), 3) := by decide +kernel
theorem dX8_playOn_68 : decode cX8_playOn 68 = .ok (.iload_n 2, 1) := by decide +kernel
theorem dX8_playOn_69 : decode cX8_playOn 69 = .ok (.ireturn, 1) := by decide +kernel
set_option maxRecDepth 20000 in
theorem ggX8_carryOutOrder_X2_at : GoodIn wsX8_carryOutOrder wsX2_at := goodIn_r _ [5, 6, 7, 167, 168] (by decide +kernel) (by decide +kernel)
set_option maxRecDepth 20000 in
theorem gX8_carryOutOrder_X2_at_n246 : GoodIn wsX8_carryOutOrder (wsX2_at) := ggX8_carryOutOrder_X2_at
set_option maxRecDepth 20000 in
theorem ggX8_carryOutOrder_X8_carryOutPile : GoodIn wsX8_carryOutOrder wsX8_carryOutPile := goodIn_r _ [12, 1, 2, 3, 4, 5, 6, 7, 13, 14, 15, 16, 17, 18, 19, 11, 20, 21, 22, 23, 24, 25, 26, 27, 28, 29, 159, 160, 161, 162, 163, 164, 165, 166, 167, 168, 169, 170, 171, 172, 173, 174, 175, 176, 177, 178, 179, 180, 181, 182] (by decide +kernel) (by decide +kernel)
set_option maxRecDepth 20000 in
theorem gX8_carryOutOrder_X8_carryOutPile : GoodIn wsX8_carryOutOrder (wsV RX8 250 RX8 yX8_carryOutPile wsX8_carryOutPile) := goodIn_app (goodIn_of _ (by decide +kernel)) ggX8_carryOutOrder_X8_carryOutPile
set_option maxRecDepth 20000 in
theorem ggX8_carryOutOrder_X2_digitAt : GoodIn wsX8_carryOutOrder wsX2_digitAt := goodIn_r _ [15, 16, 2, 4, 3, 5, 6, 7, 167, 168] (by decide +kernel) (by decide +kernel)
set_option maxRecDepth 20000 in
theorem gX8_carryOutOrder_X2_digitAt_n253 : GoodIn wsX8_carryOutOrder (wsX2_digitAt) := ggX8_carryOutOrder_X2_digitAt
set_option maxRecDepth 20000 in
theorem ggX8_carryOutOrder_X8_takeTokens : GoodIn wsX8_carryOutOrder wsX8_takeTokens := goodIn_r _ [33, 21, 34, 35, 36, 37, 38, 39, 40, 41, 11, 42, 43, 44, 45, 46, 47, 48, 49, 50, 51, 52, 53, 54, 55, 56, 57, 58, 59, 60, 61, 62, 63, 64, 65, 66, 67, 68, 69, 70, 71, 72, 73, 74, 75, 76, 77, 159, 160, 161, 162, 163, 164, 165, 166, 169, 170, 171, 172, 173, 174, 175, 176, 177, 178, 179, 180, 181, 182, 183, 184] (by decide +kernel) (by decide +kernel)
set_option maxRecDepth 20000 in
theorem gX8_carryOutOrder_X8_takeTokens : GoodIn wsX8_carryOutOrder (wsV RX8 83 RX8 yX8_takeTokens wsX8_takeTokens) := goodIn_app (goodIn_of _ (by decide +kernel)) ggX8_carryOutOrder_X8_takeTokens
set_option maxRecDepth 20000 in
theorem ggX8_carryOutOrder_X8_givePasses : GoodIn wsX8_carryOutOrder wsX8_givePasses := goodIn_r _ [81, 21, 159, 160, 161, 162, 163, 164, 165, 166, 169, 170, 171, 172, 173, 174, 175, 176, 177, 178, 183, 184] (by decide +kernel) (by decide +kernel)
set_option maxRecDepth 20000 in
theorem gX8_carryOutOrder_X8_givePasses : GoodIn wsX8_carryOutOrder (wsV RX8 73 RX8 yX8_givePasses wsX8_givePasses) := goodIn_app (goodIn_of _ (by decide +kernel)) ggX8_carryOutOrder_X8_givePasses
set_option maxRecDepth 20000 in
theorem ggX8_carryOutOrder_X8_usePass : GoodIn wsX8_carryOutOrder wsX8_usePass := goodIn_r _ [85, 21, 43, 35, 44, 45, 46, 47, 48, 49, 50, 39, 51, 52, 53, 54, 55, 11, 56, 57, 58, 59, 60, 61, 62, 63, 64, 65, 66, 67, 68, 86, 87, 88, 73, 74, 75, 76, 77, 159, 160, 161, 162, 163, 164, 165, 166, 169, 170, 171, 172, 173, 174, 175, 176, 177, 178, 179, 180, 181, 182, 183, 184] (by decide +kernel) (by decide +kernel)
set_option maxRecDepth 20000 in
theorem gX8_carryOutOrder_X8_usePass : GoodIn wsX8_carryOutOrder (wsV RX8 86 RX8 yX8_usePass wsX8_usePass) := goodIn_app (goodIn_of _ (by decide +kernel)) ggX8_carryOutOrder_X8_usePass
set_option maxRecDepth 20000 in
theorem ggX8_carryOutOrder_X8_playOn : GoodIn wsX8_carryOutOrder wsX8_playOn := goodIn_r _ [92, 21, 93, 94, 35, 95, 96, 46, 47, 48, 49, 50, 39, 51, 52, 53, 54, 55, 11, 56, 57, 58, 59, 60, 61, 62, 63, 64, 65, 66, 97, 98, 99, 100, 101, 102, 103, 104, 105, 106, 107, 108, 109, 110, 111, 112, 113, 114, 115, 116, 117, 118, 119, 120, 121, 122, 123, 124, 41, 42, 125, 126, 127, 128, 129, 130, 131, 132, 133, 67, 68, 134, 135, 136, 137, 138, 139, 140, 141, 142, 143, 144, 145, 146, 147, 148, 149, 150, 151, 152, 153, 154, 155, 156, 43, 44, 45, 157, 86, 87, 88, 73, 74, 75, 76, 77, 158, 69, 70, 71, 72, 34, 36, 37, 38, 159, 160, 161, 162, 163, 164, 165, 166, 169, 170, 171, 172, 173, 174, 175, 176, 177, 178, 179, 180, 181, 182, 183, 184, 185, 186, 187, 188, 189, 190, 191, 192] (by decide +kernel) (by decide +kernel)
set_option maxRecDepth 20000 in
theorem gX8_carryOutOrder_X8_playOn : GoodIn wsX8_carryOutOrder (wsV RX8 89 RX8 yX8_playOn wsX8_playOn) := goodIn_app (goodIn_of _ (by decide +kernel)) ggX8_carryOutOrder_X8_playOn
theorem dX8_carryOutOrder_0 : decode cX8_carryOutOrder 0 = .ok (.aload_n 0, 1) := by decide +kernel
theorem dX8_carryOutOrder_1 : decode cX8_carryOutOrder 1 = .ok (.getfield 52, 3) := by decide +kernel
theorem dX8_carryOutOrder_4 : decode cX8_carryOutOrder 4 = .ok (.iload_n 1, 1) := by decide +kernel
theorem dX8_carryOutOrder_5 : decode cX8_carryOutOrder 5 = .ok (.invokevirtual 246, 3) := by decide +kernel
theorem dX8_carryOutOrder_8 : decode cX8_carryOutOrder 8 = .ok (.istore_n 2, 1) := by decide +kernel
theorem dX8_carryOutOrder_9 : decode cX8_carryOutOrder 9 = .ok (.iload_n 2, 1) := by decide +kernel
theorem dX8_carryOutOrder_10 : decode cX8_carryOutOrder 10 = .ok (.bipush 43, 2) := by decide +kernel
theorem dX8_carryOutOrder_12 : decode cX8_carryOutOrder 12 = .ok (.if_icmp .ne 9, 3) := by decide +kernel
theorem dX8_carryOutOrder_15 : decode cX8_carryOutOrder 15 = .ok (.aload_n 0, 1) := by decide +kernel
theorem dX8_carryOutOrder_16 : decode cX8_carryOutOrder 16 = .ok (.iload_n 1, 1) := by decide +kernel
theorem dX8_carryOutOrder_17 : decode cX8_carryOutOrder 17 = .ok (.invokevirtual 250, 3) := by decide +kernel
theorem dX8_carryOutOrder_20 : decode cX8_carryOutOrder 20 = .ok (.ireturn, 1) := by decide +kernel
theorem dX8_carryOutOrder_21 : decode cX8_carryOutOrder 21 = .ok (.iload_n 2, 1) := by decide +kernel
theorem dX8_carryOutOrder_22 : decode cX8_carryOutOrder 22 = .ok (.bipush 45, 2) := by decide +kernel
theorem dX8_carryOutOrder_24 : decode cX8_carryOutOrder 24 = .ok (.if_icmp .ne 28, 3) := by decide +kernel
theorem dX8_carryOutOrder_27 : decode cX8_carryOutOrder 27 = .ok (.aload_n 0, 1) := by decide +kernel
theorem dX8_carryOutOrder_28 : decode cX8_carryOutOrder 28 = .ok (.aload_n 0, 1) := by decide +kernel
theorem dX8_carryOutOrder_29 : decode cX8_carryOutOrder 29 = .ok (.getfield 52, 3) := by decide +kernel
theorem dX8_carryOutOrder_32 : decode cX8_carryOutOrder 32 = .ok (.iload_n 1, 1) := by decide +kernel
theorem dX8_carryOutOrder_33 : decode cX8_carryOutOrder 33 = .ok (.iconst 1, 1) := by decide +kernel
theorem dX8_carryOutOrder_34 : decode cX8_carryOutOrder 34 = .ok (.iadd, 1) := by decide +kernel
theorem dX8_carryOutOrder_35 : decode cX8_carryOutOrder 35 = .ok (.invokevirtual 253, 3) := by decide +kernel
theorem dX8_carryOutOrder_38 : decode cX8_carryOutOrder 38 = .ok (.aload_n 0, 1) := by decide +kernel
theorem dX8_carryOutOrder_39 : decode cX8_carryOutOrder 39 = .ok (.getfield 52, 3) := by decide +kernel
theorem dX8_carryOutOrder_42 : decode cX8_carryOutOrder 42 = .ok (.iload_n 1, 1) := by decide +kernel
theorem dX8_carryOutOrder_43 : decode cX8_carryOutOrder 43 = .ok (.iconst 3, 1) := by decide +kernel
theorem dX8_carryOutOrder_44 : decode cX8_carryOutOrder 44 = .ok (.iadd, 1) := by decide +kernel
theorem dX8_carryOutOrder_45 : decode cX8_carryOutOrder 45 = .ok (.invokevirtual 253, 3) := by decide +kernel
theorem dX8_carryOutOrder_48 : decode cX8_carryOutOrder 48 = .ok (.invokevirtual 83, 3) := by decide +kernel
theorem dX8_carryOutOrder_51 : decode cX8_carryOutOrder 51 = .ok (.ireturn, 1) := by decide +kernel
theorem dX8_carryOutOrder_52 : decode cX8_carryOutOrder 52 = .ok (.iload_n 2, 1) := by decide +kernel
theorem dX8_carryOutOrder_53 : decode cX8_carryOutOrder 53 = .ok (.bipush 114, 2) := by decide +kernel
theorem dX8_carryOutOrder_55 : decode cX8_carryOutOrder 55 = .ok (.if_icmp .ne 28, 3) := by decide +kernel
theorem dX8_carryOutOrder_58 : decode cX8_carryOutOrder 58 = .ok (.aload_n 0, 1) := by decide +kernel
theorem dX8_carryOutOrder_59 : decode cX8_carryOutOrder 59 = .ok (.aload_n 0, 1) := by decide +kernel
theorem dX8_carryOutOrder_60 : decode cX8_carryOutOrder 60 = .ok (.getfield 52, 3) := by decide +kernel
theorem dX8_carryOutOrder_63 : decode cX8_carryOutOrder 63 = .ok (.iload_n 1, 1) := by decide +kernel
theorem dX8_carryOutOrder_64 : decode cX8_carryOutOrder 64 = .ok (.iconst 1, 1) := by decide +kernel
theorem dX8_carryOutOrder_65 : decode cX8_carryOutOrder 65 = .ok (.iadd, 1) := by decide +kernel
theorem dX8_carryOutOrder_66 : decode cX8_carryOutOrder 66 = .ok (.invokevirtual 253, 3) := by decide +kernel
theorem dX8_carryOutOrder_69 : decode cX8_carryOutOrder 69 = .ok (.aload_n 0, 1) := by decide +kernel
theorem dX8_carryOutOrder_70 : decode cX8_carryOutOrder 70 = .ok (.getfield 52, 3) := by decide +kernel
theorem dX8_carryOutOrder_73 : decode cX8_carryOutOrder 73 = .ok (.iload_n 1, 1) := by decide +kernel
theorem dX8_carryOutOrder_74 : decode cX8_carryOutOrder 74 = .ok (.iconst 2, 1) := by decide +kernel
theorem dX8_carryOutOrder_75 : decode cX8_carryOutOrder 75 = .ok (.iadd, 1) := by decide +kernel
theorem dX8_carryOutOrder_76 : decode cX8_carryOutOrder 76 = .ok (.invokevirtual 253, 3) := by decide +kernel
theorem dX8_carryOutOrder_79 : decode cX8_carryOutOrder 79 = .ok (.invokevirtual 73, 3) := by decide +kernel
theorem dX8_carryOutOrder_82 : decode cX8_carryOutOrder 82 = .ok (.ireturn, 1) := by decide +kernel
theorem dX8_carryOutOrder_83 : decode cX8_carryOutOrder 83 = .ok (.iload_n 2, 1) := by decide +kernel
theorem dX8_carryOutOrder_84 : decode cX8_carryOutOrder 84 = .ok (.bipush 112, 2) := by decide +kernel
theorem dX8_carryOutOrder_86 : decode cX8_carryOutOrder 86 = .ok (.if_icmp .ne 10, 3) := by decide +kernel
theorem dX8_carryOutOrder_89 : decode cX8_carryOutOrder 89 = .ok (.aload_n 0, 1) := by decide +kernel
theorem dX8_carryOutOrder_90 : decode cX8_carryOutOrder 90 = .ok (.invokevirtual 86, 3) := by decide +kernel
theorem dX8_carryOutOrder_93 : decode cX8_carryOutOrder 93 = .ok (.goto 8, 3) := by decide +kernel
theorem dX8_carryOutOrder_96 : decode cX8_carryOutOrder 96 = .ok (.aload_n 0, 1) := by decide +kernel
theorem dX8_carryOutOrder_97 : decode cX8_carryOutOrder 97 = .ok (.iconst 1, 1) := by decide +kernel
theorem dX8_carryOutOrder_98 : decode cX8_carryOutOrder 98 = .ok (.invokevirtual 89, 3) := by decide +kernel
theorem dX8_carryOutOrder_101 : decode cX8_carryOutOrder 101 = .ok (.ireturn, 1) := by decide +kernel
set_option maxRecDepth 20000 in
theorem ggX8_carryOutPile_X2_at : GoodIn wsX8_carryOutPile wsX2_at := goodIn_r _ [5, 6, 7, 34, 35] (by decide +kernel) (by decide +kernel)
set_option maxRecDepth 20000 in
theorem gX8_carryOutPile_X2_at_n246 : GoodIn wsX8_carryOutPile (wsX2_at) := ggX8_carryOutPile_X2_at
set_option maxRecDepth 20000 in
theorem ggX8_carryOutPile_X2_digitAt : GoodIn wsX8_carryOutPile wsX2_digitAt := goodIn_r _ [10, 11, 2, 4, 3, 5, 6, 7, 34, 35] (by decide +kernel) (by decide +kernel)
set_option maxRecDepth 20000 in
theorem gX8_carryOutPile_X2_digitAt_n253 : GoodIn wsX8_carryOutPile (wsX2_digitAt) := ggX8_carryOutPile_X2_digitAt
set_option maxRecDepth 20000 in
theorem ggX8_carryOutPile_X8_addPile : GoodIn wsX8_carryOutPile wsX8_addPile := goodIn_r _ [16, 17, 18, 19, 20, 21, 22, 23, 24, 25, 26, 27, 28, 29, 30, 31, 32, 33, 36, 37, 38, 39, 40, 41, 42, 43, 44, 45, 46, 47, 48, 49] (by decide +kernel) (by decide +kernel)
set_option maxRecDepth 20000 in
theorem gX8_carryOutPile_X8_addPile : GoodIn wsX8_carryOutPile (wsV RX8 69 RX8 yX8_addPile wsX8_addPile) := goodIn_app (goodIn_of _ (by decide +kernel)) ggX8_carryOutPile_X8_addPile
theorem dX8_carryOutPile_0 : decode cX8_carryOutPile 0 = .ok (.aload_n 0, 1) := by decide +kernel
theorem dX8_carryOutPile_1 : decode cX8_carryOutPile 1 = .ok (.getfield 52, 3) := by decide +kernel
theorem dX8_carryOutPile_4 : decode cX8_carryOutPile 4 = .ok (.iload_n 1, 1) := by decide +kernel
theorem dX8_carryOutPile_5 : decode cX8_carryOutPile 5 = .ok (.iconst 2, 1) := by decide +kernel
theorem dX8_carryOutPile_6 : decode cX8_carryOutPile 6 = .ok (.iadd, 1) := by decide +kernel
theorem dX8_carryOutPile_7 : decode cX8_carryOutPile 7 = .ok (.invokevirtual 246, 3) := by decide +kernel
theorem dX8_carryOutPile_10 : decode cX8_carryOutPile 10 = .ok (.bipush 119, 2) := by decide +kernel
theorem dX8_carryOutPile_12 : decode cX8_carryOutPile 12 = .ok (.if_icmp .ne 7, 3) := by decide +kernel
theorem dX8_carryOutPile_15 : decode cX8_carryOutPile 15 = .ok (.iconst 1, 1) := by decide +kernel
theorem dX8_carryOutPile_16 : decode cX8_carryOutPile 16 = .ok (.goto 4, 3) := by decide +kernel
theorem dX8_carryOutPile_19 : decode cX8_carryOutPile 19 = .ok (.iconst 0, 1) := by decide +kernel
theorem dX8_carryOutPile_20 : decode cX8_carryOutPile 20 = .ok (.istore_n 2, 1) := by decide +kernel
theorem dX8_carryOutPile_21 : decode cX8_carryOutPile 21 = .ok (.iload_n 2, 1) := by decide +kernel
theorem dX8_carryOutPile_22 : decode cX8_carryOutPile 22 = .ok (.ifCond .eq 16, 3) := by decide +kernel
theorem dX8_carryOutPile_25 : decode cX8_carryOutPile 25 = .ok (.aload_n 0, 1) := by decide +kernel
theorem dX8_carryOutPile_26 : decode cX8_carryOutPile 26 = .ok (.getfield 52, 3) := by decide +kernel
theorem dX8_carryOutPile_29 : decode cX8_carryOutPile 29 = .ok (.iload_n 1, 1) := by decide +kernel
theorem dX8_carryOutPile_30 : decode cX8_carryOutPile 30 = .ok (.iconst 3, 1) := by decide +kernel
theorem dX8_carryOutPile_31 : decode cX8_carryOutPile 31 = .ok (.iadd, 1) := by decide +kernel
theorem dX8_carryOutPile_32 : decode cX8_carryOutPile 32 = .ok (.invokevirtual 253, 3) := by decide +kernel
theorem dX8_carryOutPile_35 : decode cX8_carryOutPile 35 = .ok (.goto 4, 3) := by decide +kernel
theorem dX8_carryOutPile_38 : decode cX8_carryOutPile 38 = .ok (.iconst 1, 1) := by decide +kernel
theorem dX8_carryOutPile_39 : decode cX8_carryOutPile 39 = .ok (.istore_n 3, 1) := by decide +kernel
theorem dX8_carryOutPile_40 : decode cX8_carryOutPile 40 = .ok (.aload_n 0, 1) := by decide +kernel
theorem dX8_carryOutPile_41 : decode cX8_carryOutPile 41 = .ok (.getfield 52, 3) := by decide +kernel
theorem dX8_carryOutPile_44 : decode cX8_carryOutPile 44 = .ok (.iload_n 2, 1) := by decide +kernel
theorem dX8_carryOutPile_45 : decode cX8_carryOutPile 45 = .ok (.ifCond .eq 9, 3) := by decide +kernel
theorem dX8_carryOutPile_48 : decode cX8_carryOutPile 48 = .ok (.iload_n 1, 1) := by decide +kernel
theorem dX8_carryOutPile_49 : decode cX8_carryOutPile 49 = .ok (.iconst 4, 1) := by decide +kernel
theorem dX8_carryOutPile_50 : decode cX8_carryOutPile 50 = .ok (.iadd, 1) := by decide +kernel
theorem dX8_carryOutPile_51 : decode cX8_carryOutPile 51 = .ok (.goto 6, 3) := by decide +kernel
theorem dX8_carryOutPile_54 : decode cX8_carryOutPile 54 = .ok (.iload_n 1, 1) := by decide +kernel
theorem dX8_carryOutPile_55 : decode cX8_carryOutPile 55 = .ok (.iconst 2, 1) := by decide +kernel
theorem dX8_carryOutPile_56 : decode cX8_carryOutPile 56 = .ok (.iadd, 1) := by decide +kernel
theorem dX8_carryOutPile_57 : decode cX8_carryOutPile 57 = .ok (.invokevirtual 246, 3) := by decide +kernel
theorem dX8_carryOutPile_60 : decode cX8_carryOutPile 60 = .ok (.bipush 33, 2) := by decide +kernel
theorem dX8_carryOutPile_62 : decode cX8_carryOutPile 62 = .ok (.if_icmp .ne 7, 3) := by decide +kernel
theorem dX8_carryOutPile_65 : decode cX8_carryOutPile 65 = .ok (.iconst 1, 1) := by decide +kernel
theorem dX8_carryOutPile_66 : decode cX8_carryOutPile 66 = .ok (.goto 4, 3) := by decide +kernel
theorem dX8_carryOutPile_69 : decode cX8_carryOutPile 69 = .ok (.iconst 0, 1) := by decide +kernel
theorem dX8_carryOutPile_70 : decode cX8_carryOutPile 70 = .ok (.istore 4, 2) := by decide +kernel
theorem dX8_carryOutPile_72 : decode cX8_carryOutPile 72 = .ok (.aload_n 0, 1) := by decide +kernel
theorem dX8_carryOutPile_73 : decode cX8_carryOutPile 73 = .ok (.aload_n 0, 1) := by decide +kernel
theorem dX8_carryOutPile_74 : decode cX8_carryOutPile 74 = .ok (.getfield 52, 3) := by decide +kernel
theorem dX8_carryOutPile_77 : decode cX8_carryOutPile 77 = .ok (.iload_n 1, 1) := by decide +kernel
theorem dX8_carryOutPile_78 : decode cX8_carryOutPile 78 = .ok (.iconst 1, 1) := by decide +kernel
theorem dX8_carryOutPile_79 : decode cX8_carryOutPile 79 = .ok (.iadd, 1) := by decide +kernel
theorem dX8_carryOutPile_80 : decode cX8_carryOutPile 80 = .ok (.invokevirtual 253, 3) := by decide +kernel
theorem dX8_carryOutPile_83 : decode cX8_carryOutPile 83 = .ok (.iload_n 3, 1) := by decide +kernel
theorem dX8_carryOutPile_84 : decode cX8_carryOutPile 84 = .ok (.iload 4, 2) := by decide +kernel
theorem dX8_carryOutPile_86 : decode cX8_carryOutPile 86 = .ok (.invokevirtual 69, 3) := by decide +kernel
theorem dX8_carryOutPile_89 : decode cX8_carryOutPile 89 = .ok (.ireturn, 1) := by decide +kernel
set_option maxRecDepth 20000 in
theorem ggX8_gamesWonByDraws_X0_copyFrom : GoodIn wsX8_gamesWonByDraws wsX0_copyFrom := goodIn_r _ [7, 8, 9, 10, 11, 12, 13, 14, 15, 16, 17, 18, 19, 20, 21, 22, 23, 24, 25, 26, 27, 28, 29, 30, 31, 99, 100, 101, 102, 103, 104, 105, 106, 107, 108, 109, 110, 111, 112, 113, 114] (by decide +kernel) (by decide +kernel)
set_option maxRecDepth 20000 in
theorem gX8_gamesWonByDraws_X0_copyFrom_n57 : GoodIn wsX8_gamesWonByDraws (wsX0_copyFrom) := ggX8_gamesWonByDraws_X0_copyFrom
set_option maxRecDepth 20000 in
theorem ggX8_gamesWonByDraws_X0_isOver : GoodIn wsX8_gamesWonByDraws wsX0_isOver := goodIn_r _ [34, 35, 36, 37, 5, 38, 17, 10, 8, 14, 16, 39, 40, 41, 42, 43, 44, 45, 46, 12, 13, 47, 48, 49, 50, 99, 100, 101, 102, 103, 104, 105, 106, 107, 108, 109, 110, 111, 112, 113, 114] (by decide +kernel) (by decide +kernel)
set_option maxRecDepth 20000 in
theorem gX8_gamesWonByDraws_X0_isOver_n143 : GoodIn wsX8_gamesWonByDraws (wsX0_isOver) := ggX8_gamesWonByDraws_X0_isOver
set_option maxRecDepth 20000 in
theorem ggX8_gamesWonByDraws_X0_moveSet : GoodIn wsX8_gamesWonByDraws wsX0_moveSet := goodIn_r _ [38, 17, 10, 8, 14, 16, 39, 40, 41, 42, 43, 44, 45, 5, 46, 12, 13, 47, 48, 49, 50, 99, 100, 101, 102, 103, 104, 105, 106, 107, 108, 109, 110, 111, 112, 113, 114] (by decide +kernel) (by decide +kernel)
set_option maxRecDepth 20000 in
theorem gX8_gamesWonByDraws_X0_moveSet_n165 : GoodIn wsX8_gamesWonByDraws (wsX0_moveSet) := ggX8_gamesWonByDraws_X0_moveSet
set_option maxRecDepth 20000 in
theorem ggX8_gamesWonByDraws_X8_moveInPlace : GoodIn wsX8_gamesWonByDraws wsX8_moveInPlace := goodIn_r _ [53, 54, 55, 56, 57, 58, 59, 60, 61, 62, 41, 63] (by decide +kernel) (by decide +kernel)
set_option maxRecDepth 20000 in
theorem gX8_gamesWonByDraws_X8_moveInPlace : GoodIn wsX8_gamesWonByDraws (va_wsS RX8 256 yX8_moveInPlace wsX8_moveInPlace) := goodIn_app (goodIn_of _ (by decide +kernel)) ggX8_gamesWonByDraws_X8_moveInPlace
set_option maxRecDepth 20000 in
theorem ggX8_gamesWonByDraws_X0_make : GoodIn wsX8_gamesWonByDraws wsX0_make := goodIn_r _ [66, 67, 68, 69, 5, 70, 35, 36, 37, 38, 17, 10, 8, 14, 16, 39, 40, 41, 42, 43, 44, 45, 46, 12, 13, 47, 48, 49, 50, 62, 63, 71, 72, 73, 74, 75, 76, 77, 78, 15, 79, 80, 81, 82, 83, 84, 85, 86, 11, 99, 100, 101, 102, 103, 104, 105, 106, 107, 108, 109, 110, 111, 112, 113, 114] (by decide +kernel) (by decide +kernel)
set_option maxRecDepth 20000 in
theorem gX8_gamesWonByDraws_X0_make_n242 : GoodIn wsX8_gamesWonByDraws (wsX0_make) := ggX8_gamesWonByDraws_X0_make
set_option maxRecDepth 20000 in
theorem ggX8_gamesWonByDraws_X0_winner : GoodIn wsX8_gamesWonByDraws wsX0_winner := goodIn_r _ [89, 17, 14, 90, 32, 33, 5, 34, 35, 36, 37, 38, 10, 8, 16, 39, 40, 41, 42, 43, 44, 45, 46, 12, 13, 47, 48, 49, 50, 99, 100, 101, 102, 103, 104, 105, 106, 107, 108, 109, 110, 111, 112, 113, 114] (by decide +kernel) (by decide +kernel)
set_option maxRecDepth 20000 in
theorem gX8_gamesWonByDraws_X0_winner_n147 : GoodIn wsX8_gamesWonByDraws (wsX0_winner) := ggX8_gamesWonByDraws_X0_winner
theorem dX8_gamesWonByDraws_0 : decode cX8_gamesWonByDraws 0 = .ok (.iconst 0, 1) := by decide +kernel
theorem dX8_gamesWonByDraws_1 : decode cX8_gamesWonByDraws 1 = .ok (.istore_n 3, 1) := by decide +kernel
theorem dX8_gamesWonByDraws_2 : decode cX8_gamesWonByDraws 2 = .ok (.iload_n 2, 1) := by decide +kernel
theorem dX8_gamesWonByDraws_3 : decode cX8_gamesWonByDraws 3 = .ok (.istore 4, 2) := by decide +kernel
theorem dX8_gamesWonByDraws_5 : decode cX8_gamesWonByDraws 5 = .ok (.iconst 0, 1) := by decide +kernel
theorem dX8_gamesWonByDraws_6 : decode cX8_gamesWonByDraws 6 = .ok (.istore 5, 2) := by decide +kernel
theorem dX8_gamesWonByDraws_8 : decode cX8_gamesWonByDraws 8 = .ok (.iload 5, 2) := by decide +kernel
theorem dX8_gamesWonByDraws_10 : decode cX8_gamesWonByDraws 10 = .ok (.iload_n 1, 1) := by decide +kernel
theorem dX8_gamesWonByDraws_11 : decode cX8_gamesWonByDraws 11 = .ok (.if_icmp .ge 101, 3) := by decide +kernel
theorem dX8_gamesWonByDraws_14 : decode cX8_gamesWonByDraws 14 = .ok (.aload_n 0, 1) := by decide +kernel
theorem dX8_gamesWonByDraws_15 : decode cX8_gamesWonByDraws 15 = .ok (.getfield 19, 3) := by decide +kernel
theorem dX8_gamesWonByDraws_18 : decode cX8_gamesWonByDraws 18 = .ok (.aload_n 0, 1) := by decide +kernel
theorem dX8_gamesWonByDraws_19 : decode cX8_gamesWonByDraws 19 = .ok (.getfield 12, 3) := by decide +kernel
theorem dX8_gamesWonByDraws_22 : decode cX8_gamesWonByDraws 22 = .ok (.invokevirtual 57, 3) := by decide +kernel
theorem dX8_gamesWonByDraws_25 : decode cX8_gamesWonByDraws 25 = .ok (.iconst 0, 1) := by decide +kernel
theorem dX8_gamesWonByDraws_26 : decode cX8_gamesWonByDraws 26 = .ok (.istore 6, 2) := by decide +kernel
theorem dX8_gamesWonByDraws_28 : decode cX8_gamesWonByDraws 28 = .ok (.iload 6, 2) := by decide +kernel
theorem dX8_gamesWonByDraws_30 : decode cX8_gamesWonByDraws 30 = .ok (.bipush 40, 2) := by decide +kernel
theorem dX8_gamesWonByDraws_32 : decode cX8_gamesWonByDraws 32 = .ok (.if_icmp .ge 54, 3) := by decide +kernel
theorem dX8_gamesWonByDraws_35 : decode cX8_gamesWonByDraws 35 = .ok (.aload_n 0, 1) := by decide +kernel
theorem dX8_gamesWonByDraws_36 : decode cX8_gamesWonByDraws 36 = .ok (.getfield 19, 3) := by decide +kernel
theorem dX8_gamesWonByDraws_39 : decode cX8_gamesWonByDraws 39 = .ok (.invokevirtual 143, 3) := by decide +kernel
theorem dX8_gamesWonByDraws_42 : decode cX8_gamesWonByDraws 42 = .ok (.ifCond .ne 44, 3) := by decide +kernel
theorem dX8_gamesWonByDraws_45 : decode cX8_gamesWonByDraws 45 = .ok (.bipush 75, 2) := by decide +kernel
theorem dX8_gamesWonByDraws_47 : decode cX8_gamesWonByDraws 47 = .ok (.iload 4, 2) := by decide +kernel
theorem dX8_gamesWonByDraws_49 : decode cX8_gamesWonByDraws 49 = .ok (.imul, 1) := by decide +kernel
theorem dX8_gamesWonByDraws_50 : decode cX8_gamesWonByDraws 50 = .ok (.bipush 74, 2) := by decide +kernel
theorem dX8_gamesWonByDraws_52 : decode cX8_gamesWonByDraws 52 = .ok (.iadd, 1) := by decide +kernel
theorem dX8_gamesWonByDraws_53 : decode cX8_gamesWonByDraws 53 = .ok (.ldc 185, 2) := by decide +kernel
theorem dX8_gamesWonByDraws_55 : decode cX8_gamesWonByDraws 55 = .ok (.irem, 1) := by decide +kernel
theorem dX8_gamesWonByDraws_56 : decode cX8_gamesWonByDraws 56 = .ok (.istore 4, 2) := by decide +kernel
theorem dX8_gamesWonByDraws_58 : decode cX8_gamesWonByDraws 58 = .ok (.aload_n 0, 1) := by decide +kernel
theorem dX8_gamesWonByDraws_59 : decode cX8_gamesWonByDraws 59 = .ok (.getfield 19, 3) := by decide +kernel
theorem dX8_gamesWonByDraws_62 : decode cX8_gamesWonByDraws 62 = .ok (.aload_n 0, 1) := by decide +kernel
theorem dX8_gamesWonByDraws_63 : decode cX8_gamesWonByDraws 63 = .ok (.getfield 19, 3) := by decide +kernel
theorem dX8_gamesWonByDraws_66 : decode cX8_gamesWonByDraws 66 = .ok (.invokevirtual 165, 3) := by decide +kernel
theorem dX8_gamesWonByDraws_69 : decode cX8_gamesWonByDraws 69 = .ok (.iload 4, 2) := by decide +kernel
theorem dX8_gamesWonByDraws_71 : decode cX8_gamesWonByDraws 71 = .ok (.bipush 64, 2) := by decide +kernel
theorem dX8_gamesWonByDraws_73 : decode cX8_gamesWonByDraws 73 = .ok (.idiv, 1) := by decide +kernel
theorem dX8_gamesWonByDraws_74 : decode cX8_gamesWonByDraws 74 = .ok (.invokestatic 256, 3) := by decide +kernel
theorem dX8_gamesWonByDraws_77 : decode cX8_gamesWonByDraws 77 = .ok (.invokevirtual 242, 3) := by decide +kernel
theorem dX8_gamesWonByDraws_80 : decode cX8_gamesWonByDraws 80 = .ok (.iinc 6 1, 3) := by decide +kernel
theorem dX8_gamesWonByDraws_83 : decode cX8_gamesWonByDraws 83 = .ok (.goto (-55), 3) := by decide +kernel
theorem dX8_gamesWonByDraws_86 : decode cX8_gamesWonByDraws 86 = .ok (.aload_n 0, 1) := by decide +kernel
theorem dX8_gamesWonByDraws_87 : decode cX8_gamesWonByDraws 87 = .ok (.getfield 19, 3) := by decide +kernel
theorem dX8_gamesWonByDraws_90 : decode cX8_gamesWonByDraws 90 = .ok (.invokevirtual 147, 3) := by decide +kernel
theorem dX8_gamesWonByDraws_93 : decode cX8_gamesWonByDraws 93 = .ok (.aload_n 0, 1) := by decide +kernel
theorem dX8_gamesWonByDraws_94 : decode cX8_gamesWonByDraws 94 = .ok (.getfield 12, 3) := by decide +kernel
theorem dX8_gamesWonByDraws_97 : decode cX8_gamesWonByDraws 97 = .ok (.getfield 140, 3) := by decide +kernel
theorem dX8_gamesWonByDraws_100 : decode cX8_gamesWonByDraws 100 = .ok (.if_icmp .ne 6, 3) := by decide +kernel
theorem dX8_gamesWonByDraws_103 : decode cX8_gamesWonByDraws 103 = .ok (.iinc 3 1, 3) := by decide +kernel
theorem dX8_gamesWonByDraws_106 : decode cX8_gamesWonByDraws 106 = .ok (.iinc 5 1, 3) := by decide +kernel
theorem dX8_gamesWonByDraws_109 : decode cX8_gamesWonByDraws 109 = .ok (.goto (-101), 3) := by decide +kernel
theorem dX8_gamesWonByDraws_112 : decode cX8_gamesWonByDraws 112 = .ok (.iload_n 3, 1) := by decide +kernel
theorem dX8_gamesWonByDraws_113 : decode cX8_gamesWonByDraws 113 = .ok (.ireturn, 1) := by decide +kernel
set_option maxRecDepth 20000 in
theorem ggX8_moveInPlace_J6_bitCount_0f7a4 : GoodIn wsX8_moveInPlace wsJ6_bitCount_0f7a4 := goodIn_r _ [4, 5, 6, 7] (by decide +kernel) (by decide +kernel)
set_option maxRecDepth 20000 in
theorem gX8_moveInPlace_J6_bitCount_0f7a4 : GoodIn wsX8_moveInPlace (va_wsS RX8 259 yJ6_bitCount_0f7a4 wsJ6_bitCount_0f7a4) := goodIn_app (goodIn_of _ (by decide +kernel)) ggX8_moveInPlace_J6_bitCount_0f7a4
set_option maxRecDepth 20000 in
theorem ggX8_moveInPlace_X8_isIn : GoodIn wsX8_moveInPlace wsX8_isIn := goodIn_r _ [11] (by decide +kernel) (by decide +kernel)
set_option maxRecDepth 20000 in
theorem gX8_moveInPlace_X8_isIn : GoodIn wsX8_moveInPlace (va_wsS RX8 264 yX8_isIn wsX8_isIn) := goodIn_app (goodIn_of _ (by decide +kernel)) ggX8_moveInPlace_X8_isIn
theorem dX8_moveInPlace_0 : decode cX8_moveInPlace 0 = .ok (.iload_n 0, 1) := by decide +kernel
theorem dX8_moveInPlace_1 : decode cX8_moveInPlace 1 = .ok (.invokestatic 259, 3) := by decide +kernel
theorem dX8_moveInPlace_4 : decode cX8_moveInPlace 4 = .ok (.istore_n 2, 1) := by decide +kernel
theorem dX8_moveInPlace_5 : decode cX8_moveInPlace 5 = .ok (.iload_n 2, 1) := by decide +kernel
theorem dX8_moveInPlace_6 : decode cX8_moveInPlace 6 = .ok (.ifCond .ne 6, 3) := by decide +kernel
theorem dX8_moveInPlace_9 : decode cX8_moveInPlace 9 = .ok (.bipush (-6), 2) := by decide +kernel
theorem dX8_moveInPlace_11 : decode cX8_moveInPlace 11 = .ok (.ireturn, 1) := by decide +kernel
theorem dX8_moveInPlace_12 : decode cX8_moveInPlace 12 = .ok (.iload_n 1, 1) := by decide +kernel
theorem dX8_moveInPlace_13 : decode cX8_moveInPlace 13 = .ok (.iload_n 2, 1) := by decide +kernel
theorem dX8_moveInPlace_14 : decode cX8_moveInPlace 14 = .ok (.irem, 1) := by decide +kernel
theorem dX8_moveInPlace_15 : decode cX8_moveInPlace 15 = .ok (.istore_n 3, 1) := by decide +kernel
theorem dX8_moveInPlace_16 : decode cX8_moveInPlace 16 = .ok (.iconst 0, 1) := by decide +kernel
theorem dX8_moveInPlace_17 : decode cX8_moveInPlace 17 = .ok (.istore 4, 2) := by decide +kernel
theorem dX8_moveInPlace_19 : decode cX8_moveInPlace 19 = .ok (.iload 4, 2) := by decide +kernel
theorem dX8_moveInPlace_21 : decode cX8_moveInPlace 21 = .ok (.bipush 20, 2) := by decide +kernel
theorem dX8_moveInPlace_23 : decode cX8_moveInPlace 23 = .ok (.if_icmp .gt 28, 3) := by decide +kernel
theorem dX8_moveInPlace_26 : decode cX8_moveInPlace 26 = .ok (.iload_n 0, 1) := by decide +kernel
theorem dX8_moveInPlace_27 : decode cX8_moveInPlace 27 = .ok (.iload 4, 2) := by decide +kernel
theorem dX8_moveInPlace_29 : decode cX8_moveInPlace 29 = .ok (.invokestatic 264, 3) := by decide +kernel
theorem dX8_moveInPlace_32 : decode cX8_moveInPlace 32 = .ok (.ifCond .eq 13, 3) := by decide +kernel
theorem dX8_moveInPlace_35 : decode cX8_moveInPlace 35 = .ok (.iload_n 3, 1) := by decide +kernel
theorem dX8_moveInPlace_36 : decode cX8_moveInPlace 36 = .ok (.ifCond .ne 6, 3) := by decide +kernel
theorem dX8_moveInPlace_39 : decode cX8_moveInPlace 39 = .ok (.iload 4, 2) := by decide +kernel
theorem dX8_moveInPlace_41 : decode cX8_moveInPlace 41 = .ok (.ireturn, 1) := by decide +kernel
theorem dX8_moveInPlace_42 : decode cX8_moveInPlace 42 = .ok (.iinc 3 (-1), 3) := by decide +kernel
theorem dX8_moveInPlace_45 : decode cX8_moveInPlace 45 = .ok (.iinc 4 1, 3) := by decide +kernel
theorem dX8_moveInPlace_48 : decode cX8_moveInPlace 48 = .ok (.goto (-29), 3) := by decide +kernel
theorem dX8_moveInPlace_51 : decode cX8_moveInPlace 51 = .ok (.bipush (-6), 2) := by decide +kernel
theorem dX8_moveInPlace_53 : decode cX8_moveInPlace 53 = .ok (.ireturn, 1) := by decide +kernel
theorem dX8_bitsOfShare_0 : decode cX8_bitsOfShare 0 = .ok (.iload_n 0, 1) := by decide +kernel
theorem dX8_bitsOfShare_1 : decode cX8_bitsOfShare 1 = .ok (.ifCond .le 7, 3) := by decide +kernel
theorem dX8_bitsOfShare_4 : decode cX8_bitsOfShare 4 = .ok (.iload_n 1, 1) := by decide +kernel
theorem dX8_bitsOfShare_5 : decode cX8_bitsOfShare 5 = .ok (.ifCond .gt 5, 3) := by decide +kernel
theorem dX8_bitsOfShare_8 : decode cX8_bitsOfShare 8 = .ok (.iconst 0, 1) := by decide +kernel
theorem dX8_bitsOfShare_9 : decode cX8_bitsOfShare 9 = .ok (.ireturn, 1) := by decide +kernel
theorem dX8_bitsOfShare_10 : decode cX8_bitsOfShare 10 = .ok (.iload_n 0, 1) := by decide +kernel
theorem dX8_bitsOfShare_11 : decode cX8_bitsOfShare 11 = .ok (.i2f, 1) := by decide +kernel
theorem dX8_bitsOfShare_12 : decode cX8_bitsOfShare 12 = .ok (.iload_n 1, 1) := by decide +kernel
theorem dX8_bitsOfShare_13 : decode cX8_bitsOfShare 13 = .ok (.i2f, 1) := by decide +kernel
theorem dX8_bitsOfShare_14 : decode cX8_bitsOfShare 14 = .ok (.fdiv, 1) := by decide +kernel
theorem dX8_bitsOfShare_15 : decode cX8_bitsOfShare 15 = .ok (.fstore_n 2, 1) := by decide +kernel
theorem dX8_bitsOfShare_16 : decode cX8_bitsOfShare 16 = .ok (.bipush 127, 2) := by decide +kernel
theorem dX8_bitsOfShare_18 : decode cX8_bitsOfShare 18 = .ok (.istore_n 3, 1) := by decide +kernel
theorem dX8_bitsOfShare_19 : decode cX8_bitsOfShare 19 = .ok (.fload_n 2, 1) := by decide +kernel
theorem dX8_bitsOfShare_20 : decode cX8_bitsOfShare 20 = .ok (.fconst 1, 1) := by decide +kernel
theorem dX8_bitsOfShare_21 : decode cX8_bitsOfShare 21 = .ok (.fcmp .g, 1) := by decide +kernel
theorem dX8_bitsOfShare_22 : decode cX8_bitsOfShare 22 = .ok (.ifCond .ge 18, 3) := by decide +kernel
theorem dX8_bitsOfShare_25 : decode cX8_bitsOfShare 25 = .ok (.iload_n 3, 1) := by decide +kernel
theorem dX8_bitsOfShare_26 : decode cX8_bitsOfShare 26 = .ok (.iconst 1, 1) := by decide +kernel
theorem dX8_bitsOfShare_27 : decode cX8_bitsOfShare 27 = .ok (.if_icmp .le 13, 3) := by decide +kernel
theorem dX8_bitsOfShare_30 : decode cX8_bitsOfShare 30 = .ok (.fload_n 2, 1) := by decide +kernel
theorem dX8_bitsOfShare_31 : decode cX8_bitsOfShare 31 = .ok (.fconst 2, 1) := by decide +kernel
theorem dX8_bitsOfShare_32 : decode cX8_bitsOfShare 32 = .ok (.fmul, 1) := by decide +kernel
theorem dX8_bitsOfShare_33 : decode cX8_bitsOfShare 33 = .ok (.fstore_n 2, 1) := by decide +kernel
theorem dX8_bitsOfShare_34 : decode cX8_bitsOfShare 34 = .ok (.iinc 3 (-1), 3) := by decide +kernel
theorem dX8_bitsOfShare_37 : decode cX8_bitsOfShare 37 = .ok (.goto (-18), 3) := by decide +kernel
theorem dX8_bitsOfShare_40 : decode cX8_bitsOfShare 40 = .ok (.iload_n 3, 1) := by decide +kernel
theorem dX8_bitsOfShare_41 : decode cX8_bitsOfShare 41 = .ok (.bipush 23, 2) := by decide +kernel
theorem dX8_bitsOfShare_43 : decode cX8_bitsOfShare 43 = .ok (.ishl, 1) := by decide +kernel
theorem dX8_bitsOfShare_44 : decode cX8_bitsOfShare 44 = .ok (.fload_n 2, 1) := by decide +kernel
theorem dX8_bitsOfShare_45 : decode cX8_bitsOfShare 45 = .ok (.fconst 1, 1) := by decide +kernel
theorem dX8_bitsOfShare_46 : decode cX8_bitsOfShare 46 = .ok (.fsub, 1) := by decide +kernel
theorem dX8_bitsOfShare_47 : decode cX8_bitsOfShare 47 = .ok (.ldc_w 268, 3) := by decide +kernel
theorem dX8_bitsOfShare_50 : decode cX8_bitsOfShare 50 = .ok (.fmul, 1) := by decide +kernel
theorem dX8_bitsOfShare_51 : decode cX8_bitsOfShare 51 = .ok (.f2i, 1) := by decide +kernel
theorem dX8_bitsOfShare_52 : decode cX8_bitsOfShare 52 = .ok (.iadd, 1) := by decide +kernel
theorem dX8_bitsOfShare_53 : decode cX8_bitsOfShare 53 = .ok (.ireturn, 1) := by decide +kernel
theorem dX8_isIn_0 : decode cX8_isIn 0 = .ok (.iload_n 0, 1) := by decide +kernel
theorem dX8_isIn_1 : decode cX8_isIn 1 = .ok (.iload_n 1, 1) := by decide +kernel
theorem dX8_isIn_2 : decode cX8_isIn 2 = .ok (.ishr, 1) := by decide +kernel
theorem dX8_isIn_3 : decode cX8_isIn 3 = .ok (.iconst 1, 1) := by decide +kernel
theorem dX8_isIn_4 : decode cX8_isIn 4 = .ok (.iand, 1) := by decide +kernel
theorem dX8_isIn_5 : decode cX8_isIn 5 = .ok (.iconst 1, 1) := by decide +kernel
theorem dX8_isIn_6 : decode cX8_isIn 6 = .ok (.if_icmp .ne 7, 3) := by decide +kernel
theorem dX8_isIn_9 : decode cX8_isIn 9 = .ok (.iconst 1, 1) := by decide +kernel
theorem dX8_isIn_10 : decode cX8_isIn 10 = .ok (.goto 4, 3) := by decide +kernel
theorem dX8_isIn_13 : decode cX8_isIn 13 = .ok (.iconst 0, 1) := by decide +kernel
theorem dX8_isIn_14 : decode cX8_isIn 14 = .ok (.ireturn, 1) := by decide +kernel
theorem dX8_takesOutOf_0 : decode cX8_takesOutOf 0 = .ok (.iload_n 1, 1) := by decide +kernel
theorem dX8_takesOutOf_1 : decode cX8_takesOutOf 1 = .ok (.iconst 1, 1) := by decide +kernel
theorem dX8_takesOutOf_2 : decode cX8_takesOutOf 2 = .ok (.iload_n 0, 1) := by decide +kernel
theorem dX8_takesOutOf_3 : decode cX8_takesOutOf 3 = .ok (.ishl, 1) := by decide +kernel
theorem dX8_takesOutOf_4 : decode cX8_takesOutOf 4 = .ok (.iconst 1, 1) := by decide +kernel
theorem dX8_takesOutOf_5 : decode cX8_takesOutOf 5 = .ok (.isub, 1) := by decide +kernel
theorem dX8_takesOutOf_6 : decode cX8_takesOutOf 6 = .ok (.iand, 1) := by decide +kernel
theorem dX8_takesOutOf_7 : decode cX8_takesOutOf 7 = .ok (.iconst 5, 1) := by decide +kernel
theorem dX8_takesOutOf_8 : decode cX8_takesOutOf 8 = .ok (.iload_n 2, 1) := by decide +kernel
theorem dX8_takesOutOf_9 : decode cX8_takesOutOf 9 = .ok (.imul, 1) := by decide +kernel
theorem dX8_takesOutOf_10 : decode cX8_takesOutOf 10 = .ok (.ishl, 1) := by decide +kernel
theorem dX8_takesOutOf_11 : decode cX8_takesOutOf 11 = .ok (.ireturn, 1) := by decide +kernel
theorem dX8_takeMove_0 : decode cX8_takeMove 0 = .ok (.iconst 5, 1) := by decide +kernel
theorem dX8_takeMove_1 : decode cX8_takeMove 1 = .ok (.iload_n 0, 1) := by decide +kernel
theorem dX8_takeMove_2 : decode cX8_takeMove 2 = .ok (.imul, 1) := by decide +kernel
theorem dX8_takeMove_3 : decode cX8_takeMove 3 = .ok (.iload_n 1, 1) := by decide +kernel
theorem dX8_takeMove_4 : decode cX8_takeMove 4 = .ok (.iadd, 1) := by decide +kernel
theorem dX8_takeMove_5 : decode cX8_takeMove 5 = .ok (.iconst 1, 1) := by decide +kernel
theorem dX8_takeMove_6 : decode cX8_takeMove 6 = .ok (.isub, 1) := by decide +kernel
theorem dX8_takeMove_7 : decode cX8_takeMove 7 = .ok (.ireturn, 1) := by decide +kernel
theorem dX9_init_0 : decode cX9_init 0 = .ok (.aload_n 0, 1) := by decide +kernel
theorem dX9_init_1 : decode cX9_init 1 = .ok (.invokespecial 1, 3) := by decide +kernel
theorem dX9_init_4 : decode cX9_init 4 = .ok (.aload_n 0, 1) := by decide +kernel
theorem dX9_init_5 : decode cX9_init 5 = .ok (.bipush 27, 2) := by decide +kernel
theorem dX9_init_7 : decode cX9_init 7 = .ok (.newarray .int, 2) := by decide +kernel
theorem dX9_init_9 : decode cX9_init 9 = .ok (.putfield 7, 3) := by decide +kernel
theorem dX9_init_12 : decode cX9_init 12 = .ok (.aload_n 0, 1) := by decide +kernel
theorem dX9_init_13 : decode cX9_init 13 = .ok (.bipush 27, 2) := by decide +kernel
theorem dX9_init_15 : decode cX9_init 15 = .ok (.newarray .int, 2) := by decide +kernel
theorem dX9_init_17 : decode cX9_init 17 = .ok (.putfield 13, 3) := by decide +kernel
theorem dX9_init_20 : decode cX9_init 20 = .ok (.aload_n 0, 1) := by decide +kernel
theorem dX9_init_21 : decode cX9_init 21 = .ok (.sipush 162, 3) := by decide +kernel
theorem dX9_init_24 : decode cX9_init 24 = .ok (.newarray .int, 2) := by decide +kernel
theorem dX9_init_26 : decode cX9_init 26 = .ok (.putfield 16, 3) := by decide +kernel
theorem dX9_init_29 : decode cX9_init 29 = .ok (.aload_n 0, 1) := by decide +kernel
theorem dX9_init_30 : decode cX9_init 30 = .ok (.bipush 54, 2) := by decide +kernel
theorem dX9_init_32 : decode cX9_init 32 = .ok (.newarray .int, 2) := by decide +kernel
theorem dX9_init_34 : decode cX9_init 34 = .ok (.putfield 19, 3) := by decide +kernel
theorem dX9_init_37 : decode cX9_init 37 = .ok (.aload_n 0, 1) := by decide +kernel
theorem dX9_init_38 : decode cX9_init 38 = .ok (.iconst 2, 1) := by decide +kernel
theorem dX9_init_39 : decode cX9_init 39 = .ok (.newarray .boolean, 2) := by decide +kernel
theorem dX9_init_41 : decode cX9_init 41 = .ok (.putfield 22, 3) := by decide +kernel
theorem dX9_init_44 : decode cX9_init 44 = .ok (.aload_n 0, 1) := by decide +kernel
theorem dX9_init_45 : decode cX9_init 45 = .ok (.bipush 80, 2) := by decide +kernel
theorem dX9_init_47 : decode cX9_init 47 = .ok (.newarray .int, 2) := by decide +kernel
theorem dX9_init_49 : decode cX9_init 49 = .ok (.putfield 26, 3) := by decide +kernel
theorem dX9_init_52 : decode cX9_init 52 = .ok (.aload_n 0, 1) := by decide +kernel
theorem dX9_init_53 : decode cX9_init 53 = .ok (.sipush 23328, 3) := by decide +kernel
theorem dX9_init_56 : decode cX9_init 56 = .ok (.newarray .int, 2) := by decide +kernel
theorem dX9_init_58 : decode cX9_init 58 = .ok (.putfield 29, 3) := by decide +kernel
theorem dX9_init_61 : decode cX9_init 61 = .ok (.aload_n 0, 1) := by decide +kernel
theorem dX9_init_62 : decode cX9_init 62 = .ok (.sipush 23328, 3) := by decide +kernel
theorem dX9_init_65 : decode cX9_init 65 = .ok (.newarray .boolean, 2) := by decide +kernel
theorem dX9_init_67 : decode cX9_init 67 = .ok (.putfield 32, 3) := by decide +kernel
theorem dX9_init_70 : decode cX9_init 70 = .ok (.aload_n 0, 1) := by decide +kernel
theorem dX9_init_71 : decode cX9_init 71 = .ok (.sipush 201, 3) := by decide +kernel
theorem dX9_init_74 : decode cX9_init 74 = .ok (.newarray .int, 2) := by decide +kernel
theorem dX9_init_76 : decode cX9_init 76 = .ok (.putfield 35, 3) := by decide +kernel
theorem dX9_init_79 : decode cX9_init 79 = .ok (.aload_n 0, 1) := by decide +kernel
theorem dX9_init_80 : decode cX9_init 80 = .ok (.sipush 168, 3) := by decide +kernel
theorem dX9_init_83 : decode cX9_init 83 = .ok (.newarray .int, 2) := by decide +kernel
theorem dX9_init_85 : decode cX9_init 85 = .ok (.putfield 38, 3) := by decide +kernel
theorem dX9_init_88 : decode cX9_init 88 = .ok (.aload_n 0, 1) := by decide +kernel
theorem dX9_init_89 : decode cX9_init 89 = .ok (.iconst 0, 1) := by decide +kernel
theorem dX9_init_90 : decode cX9_init 90 = .ok (.putfield 41, 3) := by decide +kernel
theorem dX9_init_93 : decode cX9_init 93 = .ok (.aload_n 0, 1) := by decide +kernel
theorem dX9_init_94 : decode cX9_init 94 = .ok (.getfield 7, 3) := by decide +kernel
theorem dX9_init_97 : decode cX9_init 97 = .ok (.iconst 0, 1) := by decide +kernel
theorem dX9_init_98 : decode cX9_init 98 = .ok (.bipush 7, 2) := by decide +kernel
theorem dX9_init_100 : decode cX9_init 100 = .ok (.iastore, 1) := by decide +kernel
theorem dX9_init_101 : decode cX9_init 101 = .ok (.aload_n 0, 1) := by decide +kernel
theorem dX9_init_102 : decode cX9_init 102 = .ok (.getfield 7, 3) := by decide +kernel
theorem dX9_init_105 : decode cX9_init 105 = .ok (.iconst 1, 1) := by decide +kernel
theorem dX9_init_106 : decode cX9_init 106 = .ok (.bipush 10, 2) := by decide +kernel
theorem dX9_init_108 : decode cX9_init 108 = .ok (.iastore, 1) := by decide +kernel
theorem dX9_init_109 : decode cX9_init 109 = .ok (.return_, 1) := by decide +kernel
theorem dX9_in_0 : decode cX9_in 0 = .ok (.iload_n 0, 1) := by decide +kernel
theorem dX9_in_1 : decode cX9_in 1 = .ok (.iload_n 1, 1) := by decide +kernel
theorem dX9_in_2 : decode cX9_in 2 = .ok (.if_icmp .lt 12, 3) := by decide +kernel
theorem dX9_in_5 : decode cX9_in 5 = .ok (.iload_n 0, 1) := by decide +kernel
theorem dX9_in_6 : decode cX9_in 6 = .ok (.iload_n 2, 1) := by decide +kernel
theorem dX9_in_7 : decode cX9_in 7 = .ok (.if_icmp .gt 7, 3) := by decide +kernel
theorem dX9_in_10 : decode cX9_in 10 = .ok (.iconst 1, 1) := by decide +kernel
theorem dX9_in_11 : decode cX9_in 11 = .ok (.goto 4, 3) := by decide +kernel
theorem dX9_in_14 : decode cX9_in 14 = .ok (.iconst 0, 1) := by decide +kernel
theorem dX9_in_15 : decode cX9_in 15 = .ok (.ireturn, 1) := by decide +kernel
theorem dX9_of_0 : decode cX9_of 0 = .ok (.aload_n 0, 1) := by decide +kernel
theorem dX9_of_1 : decode cX9_of 1 = .ok (.getfield 7, 3) := by decide +kernel
theorem dX9_of_4 : decode cX9_of 4 = .ok (.bipush 11, 2) := by decide +kernel
theorem dX9_of_6 : decode cX9_of 6 = .ok (.iconst 4, 1) := by decide +kernel
theorem dX9_of_7 : decode cX9_of 7 = .ok (.iload_n 1, 1) := by decide +kernel
theorem dX9_of_8 : decode cX9_of 8 = .ok (.imul, 1) := by decide +kernel
theorem dX9_of_9 : decode cX9_of 9 = .ok (.iadd, 1) := by decide +kernel
theorem dX9_of_10 : decode cX9_of 10 = .ok (.iload_n 2, 1) := by decide +kernel
theorem dX9_of_11 : decode cX9_of 11 = .ok (.iadd, 1) := by decide +kernel
theorem dX9_of_12 : decode cX9_of 12 = .ok (.iaload, 1) := by decide +kernel
theorem dX9_of_13 : decode cX9_of 13 = .ok (.ireturn, 1) := by decide +kernel
theorem dX9_lay_0 : decode cX9_lay 0 = .ok (.aload_n 0, 1) := by decide +kernel
theorem dX9_lay_1 : decode cX9_lay 1 = .ok (.getfield 7, 3) := by decide +kernel
theorem dX9_lay_4 : decode cX9_lay 4 = .ok (.bipush 11, 2) := by decide +kernel
theorem dX9_lay_6 : decode cX9_lay 6 = .ok (.iconst 4, 1) := by decide +kernel
theorem dX9_lay_7 : decode cX9_lay 7 = .ok (.iload_n 1, 1) := by decide +kernel
theorem dX9_lay_8 : decode cX9_lay 8 = .ok (.imul, 1) := by decide +kernel
theorem dX9_lay_9 : decode cX9_lay 9 = .ok (.iadd, 1) := by decide +kernel
theorem dX9_lay_10 : decode cX9_lay 10 = .ok (.iload_n 2, 1) := by decide +kernel
theorem dX9_lay_11 : decode cX9_lay 11 = .ok (.iadd, 1) := by decide +kernel
theorem dX9_lay_12 : decode cX9_lay 12 = .ok (.iload_n 3, 1) := by decide +kernel
theorem dX9_lay_13 : decode cX9_lay 13 = .ok (.iastore, 1) := by decide +kernel
theorem dX9_lay_14 : decode cX9_lay 14 = .ok (.return_, 1) := by decide +kernel
set_option maxRecDepth 20000 in
theorem ggX9_isPile_X9_in : GoodIn wsX9_isPile wsX9_in := goodIn_r _ [5] (by decide +kernel) (by decide +kernel)
set_option maxRecDepth 20000 in
theorem gX9_isPile_X9_in : GoodIn wsX9_isPile (va_wsS RX9 45 yX9_in wsX9_in) := goodIn_app (goodIn_of _ (by decide +kernel)) ggX9_isPile_X9_in
theorem dX9_isPile_0 : decode cX9_isPile 0 = .ok (.iload_n 1, 1) := by decide +kernel
theorem dX9_isPile_1 : decode cX9_isPile 1 = .ok (.iconst 0, 1) := by decide +kernel
theorem dX9_isPile_2 : decode cX9_isPile 2 = .ok (.aload_n 0, 1) := by decide +kernel
theorem dX9_isPile_3 : decode cX9_isPile 3 = .ok (.getfield 7, 3) := by decide +kernel
theorem dX9_isPile_6 : decode cX9_isPile 6 = .ok (.iconst 2, 1) := by decide +kernel
theorem dX9_isPile_7 : decode cX9_isPile 7 = .ok (.iaload, 1) := by decide +kernel
theorem dX9_isPile_8 : decode cX9_isPile 8 = .ok (.iconst 1, 1) := by decide +kernel
theorem dX9_isPile_9 : decode cX9_isPile 9 = .ok (.isub, 1) := by decide +kernel
theorem dX9_isPile_10 : decode cX9_isPile 10 = .ok (.invokestatic 45, 3) := by decide +kernel
theorem dX9_isPile_13 : decode cX9_isPile 13 = .ok (.ireturn, 1) := by decide +kernel
set_option maxRecDepth 20000 in
theorem ggX9_isAllowed_X9_in : GoodIn wsX9_isAllowed wsX9_in := goodIn_r _ [5] (by decide +kernel) (by decide +kernel)
set_option maxRecDepth 20000 in
theorem gX9_isAllowed_X9_in : GoodIn wsX9_isAllowed (va_wsS RX9 45 yX9_in wsX9_in) := goodIn_app (goodIn_of _ (by decide +kernel)) ggX9_isAllowed_X9_in
theorem dX9_isAllowed_0 : decode cX9_isAllowed 0 = .ok (.iload_n 1, 1) := by decide +kernel
theorem dX9_isAllowed_1 : decode cX9_isAllowed 1 = .ok (.iconst 1, 1) := by decide +kernel
theorem dX9_isAllowed_2 : decode cX9_isAllowed 2 = .ok (.iconst 5, 1) := by decide +kernel
theorem dX9_isAllowed_3 : decode cX9_isAllowed 3 = .ok (.invokestatic 45, 3) := by decide +kernel
theorem dX9_isAllowed_6 : decode cX9_isAllowed 6 = .ok (.ifCond .eq 23, 3) := by decide +kernel
theorem dX9_isAllowed_9 : decode cX9_isAllowed 9 = .ok (.aload_n 0, 1) := by decide +kernel
theorem dX9_isAllowed_10 : decode cX9_isAllowed 10 = .ok (.getfield 7, 3) := by decide +kernel
theorem dX9_isAllowed_13 : decode cX9_isAllowed 13 = .ok (.iconst 0, 1) := by decide +kernel
theorem dX9_isAllowed_14 : decode cX9_isAllowed 14 = .ok (.iaload, 1) := by decide +kernel
theorem dX9_isAllowed_15 : decode cX9_isAllowed 15 = .ok (.iload_n 1, 1) := by decide +kernel
theorem dX9_isAllowed_16 : decode cX9_isAllowed 16 = .ok (.iconst 1, 1) := by decide +kernel
theorem dX9_isAllowed_17 : decode cX9_isAllowed 17 = .ok (.isub, 1) := by decide +kernel
theorem dX9_isAllowed_18 : decode cX9_isAllowed 18 = .ok (.ishr, 1) := by decide +kernel
theorem dX9_isAllowed_19 : decode cX9_isAllowed 19 = .ok (.iconst 1, 1) := by decide +kernel
theorem dX9_isAllowed_20 : decode cX9_isAllowed 20 = .ok (.iand, 1) := by decide +kernel
theorem dX9_isAllowed_21 : decode cX9_isAllowed 21 = .ok (.iconst 1, 1) := by decide +kernel
theorem dX9_isAllowed_22 : decode cX9_isAllowed 22 = .ok (.if_icmp .ne 7, 3) := by decide +kernel
theorem dX9_isAllowed_25 : decode cX9_isAllowed 25 = .ok (.iconst 1, 1) := by decide +kernel
theorem dX9_isAllowed_26 : decode cX9_isAllowed 26 = .ok (.goto 4, 3) := by decide +kernel
theorem dX9_isAllowed_29 : decode cX9_isAllowed 29 = .ok (.iconst 0, 1) := by decide +kernel
theorem dX9_isAllowed_30 : decode cX9_isAllowed 30 = .ok (.ireturn, 1) := by decide +kernel
theorem dX9_records_0 : decode cX9_records 0 = .ok (.aload_n 0, 1) := by decide +kernel
theorem dX9_records_1 : decode cX9_records 1 = .ok (.getfield 49, 3) := by decide +kernel
theorem dX9_records_4 : decode cX9_records 4 = .ok (.bipush 6, 2) := by decide +kernel
theorem dX9_records_6 : decode cX9_records 6 = .ok (.if_icmp .ne 43, 3) := by decide +kernel
theorem dX9_records_9 : decode cX9_records 9 = .ok (.iconst 0, 1) := by decide +kernel
theorem dX9_records_10 : decode cX9_records 10 = .ok (.istore_n 1, 1) := by decide +kernel
theorem dX9_records_11 : decode cX9_records 11 = .ok (.iload_n 1, 1) := by decide +kernel
theorem dX9_records_12 : decode cX9_records 12 = .ok (.sipush 135, 3) := by decide +kernel
theorem dX9_records_15 : decode cX9_records 15 = .ok (.if_icmp .ge 24, 3) := by decide +kernel
theorem dX9_records_18 : decode cX9_records 18 = .ok (.aload_n 0, 1) := by decide +kernel
theorem dX9_records_19 : decode cX9_records 19 = .ok (.getfield 16, 3) := by decide +kernel
theorem dX9_records_22 : decode cX9_records 22 = .ok (.iload_n 1, 1) := by decide +kernel
theorem dX9_records_23 : decode cX9_records 23 = .ok (.aload_n 0, 1) := by decide +kernel
theorem dX9_records_24 : decode cX9_records 24 = .ok (.getfield 16, 3) := by decide +kernel
theorem dX9_records_27 : decode cX9_records 27 = .ok (.iload_n 1, 1) := by decide +kernel
theorem dX9_records_28 : decode cX9_records 28 = .ok (.bipush 27, 2) := by decide +kernel
theorem dX9_records_30 : decode cX9_records 30 = .ok (.iadd, 1) := by decide +kernel
theorem dX9_records_31 : decode cX9_records 31 = .ok (.iaload, 1) := by decide +kernel
theorem dX9_records_32 : decode cX9_records 32 = .ok (.iastore, 1) := by decide +kernel
theorem dX9_records_33 : decode cX9_records 33 = .ok (.iinc 1 1, 3) := by decide +kernel
theorem dX9_records_36 : decode cX9_records 36 = .ok (.goto (-25), 3) := by decide +kernel
theorem dX9_records_39 : decode cX9_records 39 = .ok (.aload_n 0, 1) := by decide +kernel
theorem dX9_records_40 : decode cX9_records 40 = .ok (.dup, 1) := by decide +kernel
theorem dX9_records_41 : decode cX9_records 41 = .ok (.getfield 49, 3) := by decide +kernel
theorem dX9_records_44 : decode cX9_records 44 = .ok (.iconst 1, 1) := by decide +kernel
theorem dX9_records_45 : decode cX9_records 45 = .ok (.isub, 1) := by decide +kernel
theorem dX9_records_46 : decode cX9_records 46 = .ok (.putfield 49, 3) := by decide +kernel
