theorem dX9_refusesPile_40 : decode cX9_refusesPile 40 = .ok (.bipush (-2), 2) := by decide +kernel
theorem dX9_refusesPile_42 : decode cX9_refusesPile 42 = .ok (.goto 19, 3) := by decide +kernel
theorem dX9_refusesPile_45 : decode cX9_refusesPile 45 = .ok (.aload_n 0, 1) := by decide +kernel
theorem dX9_refusesPile_46 : decode cX9_refusesPile 46 = .ok (.getfield 7, 3) := by decide +kernel
theorem dX9_refusesPile_49 : decode cX9_refusesPile 49 = .ok (.iconst 2, 1) := by decide +kernel
theorem dX9_refusesPile_50 : decode cX9_refusesPile 50 = .ok (.iaload, 1) := by decide +kernel
theorem dX9_refusesPile_51 : decode cX9_refusesPile 51 = .ok (.iconst 4, 1) := by decide +kernel
theorem dX9_refusesPile_52 : decode cX9_refusesPile 52 = .ok (.if_icmp .ne 8, 3) := by decide +kernel
theorem dX9_refusesPile_55 : decode cX9_refusesPile 55 = .ok (.bipush (-4), 2) := by decide +kernel
theorem dX9_refusesPile_57 : decode cX9_refusesPile 57 = .ok (.goto 4, 3) := by decide +kernel
theorem dX9_refusesPile_60 : decode cX9_refusesPile 60 = .ok (.iconst 0, 1) := by decide +kernel
theorem dX9_refusesPile_61 : decode cX9_refusesPile 61 = .ok (.ireturn, 1) := by decide +kernel
set_option maxRecDepth 20000 in
theorem ggX9_comes_X9_lay : GoodIn wsX9_comes wsX9_lay := goodIn_r _ [6, 1, 7, 8, 9, 10, 11, 12, 13, 14, 15, 16, 17, 18, 19, 20, 21, 22] (by decide +kernel) (by decide +kernel)
set_option maxRecDepth 20000 in
theorem gX9_comes_X9_lay : GoodIn wsX9_comes (wsV RX9 116 RX9 yX9_lay wsX9_lay) := goodIn_app (goodIn_of _ (by decide +kernel)) ggX9_comes_X9_lay
theorem dX9_comes_0 : decode cX9_comes 0 = .ok (.aload_n 0, 1) := by decide +kernel
theorem dX9_comes_1 : decode cX9_comes 1 = .ok (.getfield 7, 3) := by decide +kernel
theorem dX9_comes_4 : decode cX9_comes 4 = .ok (.iconst 2, 1) := by decide +kernel
theorem dX9_comes_5 : decode cX9_comes 5 = .ok (.iaload, 1) := by decide +kernel
theorem dX9_comes_6 : decode cX9_comes 6 = .ok (.istore 4, 2) := by decide +kernel
theorem dX9_comes_8 : decode cX9_comes 8 = .ok (.aload_n 0, 1) := by decide +kernel
theorem dX9_comes_9 : decode cX9_comes 9 = .ok (.iload 4, 2) := by decide +kernel
theorem dX9_comes_11 : decode cX9_comes 11 = .ok (.iconst 0, 1) := by decide +kernel
theorem dX9_comes_12 : decode cX9_comes 12 = .ok (.iload_n 1, 1) := by decide +kernel
theorem dX9_comes_13 : decode cX9_comes 13 = .ok (.invokevirtual 116, 3) := by decide +kernel
theorem dX9_comes_16 : decode cX9_comes 16 = .ok (.aload_n 0, 1) := by decide +kernel
theorem dX9_comes_17 : decode cX9_comes 17 = .ok (.iload 4, 2) := by decide +kernel
theorem dX9_comes_19 : decode cX9_comes 19 = .ok (.iconst 1, 1) := by decide +kernel
theorem dX9_comes_20 : decode cX9_comes 20 = .ok (.iload_n 2, 1) := by decide +kernel
theorem dX9_comes_21 : decode cX9_comes 21 = .ok (.invokevirtual 116, 3) := by decide +kernel
theorem dX9_comes_24 : decode cX9_comes 24 = .ok (.aload_n 0, 1) := by decide +kernel
theorem dX9_comes_25 : decode cX9_comes 25 = .ok (.iload 4, 2) := by decide +kernel
theorem dX9_comes_27 : decode cX9_comes 27 = .ok (.iconst 2, 1) := by decide +kernel
theorem dX9_comes_28 : decode cX9_comes 28 = .ok (.iload_n 3, 1) := by decide +kernel
theorem dX9_comes_29 : decode cX9_comes 29 = .ok (.invokevirtual 116, 3) := by decide +kernel
theorem dX9_comes_32 : decode cX9_comes 32 = .ok (.aload_n 0, 1) := by decide +kernel
theorem dX9_comes_33 : decode cX9_comes 33 = .ok (.iload 4, 2) := by decide +kernel
theorem dX9_comes_35 : decode cX9_comes 35 = .ok (.iconst 3, 1) := by decide +kernel
theorem dX9_comes_36 : decode cX9_comes 36 = .ok (.iload_n 1, 1) := by decide +kernel
theorem dX9_comes_37 : decode cX9_comes 37 = .ok (.invokevirtual 116, 3) := by decide +kernel
theorem dX9_comes_40 : decode cX9_comes 40 = .ok (.aload_n 0, 1) := by decide +kernel
theorem dX9_comes_41 : decode cX9_comes 41 = .ok (.getfield 7, 3) := by decide +kernel
theorem dX9_comes_44 : decode cX9_comes 44 = .ok (.iconst 2, 1) := by decide +kernel
theorem dX9_comes_45 : decode cX9_comes 45 = .ok (.dup2, 1) := by decide +kernel
theorem dX9_comes_46 : decode cX9_comes 46 = .ok (.iaload, 1) := by decide +kernel
theorem dX9_comes_47 : decode cX9_comes 47 = .ok (.iconst 1, 1) := by decide +kernel
theorem dX9_comes_48 : decode cX9_comes 48 = .ok (.iadd, 1) := by decide +kernel
theorem dX9_comes_49 : decode cX9_comes 49 = .ok (.iastore, 1) := by decide +kernel
theorem dX9_comes_50 : decode cX9_comes 50 = .ok (.iload 4, 2) := by decide +kernel
theorem dX9_comes_52 : decode cX9_comes 52 = .ok (.ireturn, 1) := by decide +kernel
set_option maxRecDepth 20000 in
theorem ggX9_pile_X9_refusesPile : GoodIn wsX9_pile wsX9_refusesPile := goodIn_r _ [6, 7, 8, 9, 5, 10, 25, 26, 27, 28, 29, 30, 31, 32, 33, 34, 35, 36, 37, 38, 39, 40] (by decide +kernel) (by decide +kernel)
set_option maxRecDepth 20000 in
theorem gX9_pile_X9_refusesPile : GoodIn wsX9_pile (wsV RX9 126 RX9 yX9_refusesPile wsX9_refusesPile) := goodIn_app (goodIn_of _ (by decide +kernel)) ggX9_pile_X9_refusesPile
set_option maxRecDepth 20000 in
theorem ggX9_pile_X9_records : GoodIn wsX9_pile wsX9_records := goodIn_r _ [14, 15, 16, 7, 25, 26, 27, 28, 29, 30, 31, 32, 33, 34, 35, 36, 37, 38, 39, 40] (by decide +kernel) (by decide +kernel)
set_option maxRecDepth 20000 in
theorem gX9_pile_X9_records : GoodIn wsX9_pile (wsV RX9 123 RX9 yX9_records wsX9_records) := goodIn_app (goodIn_of _ (by decide +kernel)) ggX9_pile_X9_records
set_option maxRecDepth 20000 in
theorem ggX9_pile_X9_comes : GoodIn wsX9_pile wsX9_comes := goodIn_r _ [20, 7, 21, 22, 23, 5, 24, 25, 26, 27, 28, 29, 30, 31, 32, 33, 34, 35, 36, 37, 38, 39, 40] (by decide +kernel) (by decide +kernel)
set_option maxRecDepth 20000 in
theorem gX9_pile_X9_comes : GoodIn wsX9_pile (wsV RX9 130 RX9 yX9_comes wsX9_comes) := goodIn_app (goodIn_of _ (by decide +kernel)) ggX9_pile_X9_comes
theorem dX9_pile_0 : decode cX9_pile 0 = .ok (.aload_n 0, 1) := by decide +kernel
theorem dX9_pile_1 : decode cX9_pile 1 = .ok (.iconst 0, 1) := by decide +kernel
theorem dX9_pile_2 : decode cX9_pile 2 = .ok (.putfield 41, 3) := by decide +kernel
theorem dX9_pile_5 : decode cX9_pile 5 = .ok (.aload_n 0, 1) := by decide +kernel
theorem dX9_pile_6 : decode cX9_pile 6 = .ok (.iload_n 1, 1) := by decide +kernel
theorem dX9_pile_7 : decode cX9_pile 7 = .ok (.iload_n 2, 1) := by decide +kernel
theorem dX9_pile_8 : decode cX9_pile 8 = .ok (.iload_n 3, 1) := by decide +kernel
theorem dX9_pile_9 : decode cX9_pile 9 = .ok (.invokevirtual 126, 3) := by decide +kernel
theorem dX9_pile_12 : decode cX9_pile 12 = .ok (.istore 4, 2) := by decide +kernel
theorem dX9_pile_14 : decode cX9_pile 14 = .ok (.iload 4, 2) := by decide +kernel
theorem dX9_pile_16 : decode cX9_pile 16 = .ok (.ifCond .eq 6, 3) := by decide +kernel
theorem dX9_pile_19 : decode cX9_pile 19 = .ok (.iload 4, 2) := by decide +kernel
theorem dX9_pile_21 : decode cX9_pile 21 = .ok (.ireturn, 1) := by decide +kernel
theorem dX9_pile_22 : decode cX9_pile 22 = .ok (.aload_n 0, 1) := by decide +kernel
theorem dX9_pile_23 : decode cX9_pile 23 = .ok (.invokevirtual 123, 3) := by decide +kernel
theorem dX9_pile_26 : decode cX9_pile 26 = .ok (.aload_n 0, 1) := by decide +kernel
theorem dX9_pile_27 : decode cX9_pile 27 = .ok (.iload_n 1, 1) := by decide +kernel
theorem dX9_pile_28 : decode cX9_pile 28 = .ok (.iload_n 2, 1) := by decide +kernel
theorem dX9_pile_29 : decode cX9_pile 29 = .ok (.iload_n 3, 1) := by decide +kernel
theorem dX9_pile_30 : decode cX9_pile 30 = .ok (.invokevirtual 130, 3) := by decide +kernel
theorem dX9_pile_33 : decode cX9_pile 33 = .ok (.ireturn, 1) := by decide +kernel
set_option maxRecDepth 20000 in
theorem ggX9_refusesPasses_X9_in : GoodIn wsX9_refusesPasses wsX9_in := goodIn_r _ [4] (by decide +kernel) (by decide +kernel)
set_option maxRecDepth 20000 in
theorem gX9_refusesPasses_X9_in : GoodIn wsX9_refusesPasses (va_wsS RX9 45 yX9_in wsX9_in) := goodIn_app (goodIn_of _ (by decide +kernel)) ggX9_refusesPasses_X9_in
theorem dX9_refusesPasses_0 : decode cX9_refusesPasses 0 = .ok (.iload_n 0, 1) := by decide +kernel
theorem dX9_refusesPasses_1 : decode cX9_refusesPasses 1 = .ok (.iconst 0, 1) := by decide +kernel
theorem dX9_refusesPasses_2 : decode cX9_refusesPasses 2 = .ok (.iconst 2, 1) := by decide +kernel
theorem dX9_refusesPasses_3 : decode cX9_refusesPasses 3 = .ok (.invokestatic 45, 3) := by decide +kernel
theorem dX9_refusesPasses_6 : decode cX9_refusesPasses 6 = .ok (.ifCond .eq 16, 3) := by decide +kernel
theorem dX9_refusesPasses_9 : decode cX9_refusesPasses 9 = .ok (.iload_n 1, 1) := by decide +kernel
theorem dX9_refusesPasses_10 : decode cX9_refusesPasses 10 = .ok (.iconst 0, 1) := by decide +kernel
theorem dX9_refusesPasses_11 : decode cX9_refusesPasses 11 = .ok (.iconst 2, 1) := by decide +kernel
theorem dX9_refusesPasses_12 : decode cX9_refusesPasses 12 = .ok (.invokestatic 45, 3) := by decide +kernel
theorem dX9_refusesPasses_15 : decode cX9_refusesPasses 15 = .ok (.ifCond .eq 7, 3) := by decide +kernel
theorem dX9_refusesPasses_18 : decode cX9_refusesPasses 18 = .ok (.iconst 0, 1) := by decide +kernel
theorem dX9_refusesPasses_19 : decode cX9_refusesPasses 19 = .ok (.goto 5, 3) := by decide +kernel
theorem dX9_refusesPasses_22 : decode cX9_refusesPasses 22 = .ok (.bipush (-2), 2) := by decide +kernel
theorem dX9_refusesPasses_24 : decode cX9_refusesPasses 24 = .ok (.ireturn, 1) := by decide +kernel
theorem dX9_gives_0 : decode cX9_gives 0 = .ok (.aload_n 0, 1) := by decide +kernel
theorem dX9_gives_1 : decode cX9_gives 1 = .ok (.getfield 7, 3) := by decide +kernel
theorem dX9_gives_4 : decode cX9_gives 4 = .ok (.bipush 7, 2) := by decide +kernel
theorem dX9_gives_6 : decode cX9_gives 6 = .ok (.iload_n 1, 1) := by decide +kernel
theorem dX9_gives_7 : decode cX9_gives 7 = .ok (.iastore, 1) := by decide +kernel
theorem dX9_gives_8 : decode cX9_gives 8 = .ok (.aload_n 0, 1) := by decide +kernel
theorem dX9_gives_9 : decode cX9_gives 9 = .ok (.getfield 7, 3) := by decide +kernel
theorem dX9_gives_12 : decode cX9_gives 12 = .ok (.bipush 8, 2) := by decide +kernel
theorem dX9_gives_14 : decode cX9_gives 14 = .ok (.iload_n 2, 1) := by decide +kernel
theorem dX9_gives_15 : decode cX9_gives 15 = .ok (.iastore, 1) := by decide +kernel
theorem dX9_gives_16 : decode cX9_gives 16 = .ok (.return_, 1) := by decide +kernel
set_option maxRecDepth 20000 in
theorem ggX9_passes_X9_refusesPasses : GoodIn wsX9_passes wsX9_refusesPasses := goodIn_r _ [6, 7, 8, 5, 9] (by decide +kernel) (by decide +kernel)
set_option maxRecDepth 20000 in
theorem gX9_passes_X9_refusesPasses : GoodIn wsX9_passes (va_wsS RX9 133 yX9_refusesPasses wsX9_refusesPasses) := goodIn_app (goodIn_of _ (by decide +kernel)) ggX9_passes_X9_refusesPasses
set_option maxRecDepth 20000 in
theorem ggX9_passes_X9_records : GoodIn wsX9_passes wsX9_records := goodIn_r _ [13, 14, 15, 2, 20, 21, 22, 23, 24, 25, 26, 27, 28, 29, 30, 31, 32, 33, 34, 35] (by decide +kernel) (by decide +kernel)
set_option maxRecDepth 20000 in
theorem gX9_passes_X9_records : GoodIn wsX9_passes (wsV RX9 123 RX9 yX9_records wsX9_records) := goodIn_app (goodIn_of _ (by decide +kernel)) ggX9_passes_X9_records
set_option maxRecDepth 20000 in
theorem ggX9_passes_X9_gives : GoodIn wsX9_passes wsX9_gives := goodIn_r _ [19, 2, 20, 21, 22, 23, 24, 25, 26, 27, 28, 29, 30, 31, 32, 33, 34, 35] (by decide +kernel) (by decide +kernel)
set_option maxRecDepth 20000 in
theorem gX9_passes_X9_gives : GoodIn wsX9_passes (wsV RX9 136 RX9 yX9_gives wsX9_gives) := goodIn_app (goodIn_of _ (by decide +kernel)) ggX9_passes_X9_gives
theorem dX9_passes_0 : decode cX9_passes 0 = .ok (.aload_n 0, 1) := by decide +kernel
theorem dX9_passes_1 : decode cX9_passes 1 = .ok (.iconst 0, 1) := by decide +kernel
theorem dX9_passes_2 : decode cX9_passes 2 = .ok (.putfield 41, 3) := by decide +kernel
theorem dX9_passes_5 : decode cX9_passes 5 = .ok (.iload_n 1, 1) := by decide +kernel
theorem dX9_passes_6 : decode cX9_passes 6 = .ok (.iload_n 2, 1) := by decide +kernel
theorem dX9_passes_7 : decode cX9_passes 7 = .ok (.invokestatic 133, 3) := by decide +kernel
theorem dX9_passes_10 : decode cX9_passes 10 = .ok (.ifCond .eq 6, 3) := by decide +kernel
theorem dX9_passes_13 : decode cX9_passes 13 = .ok (.bipush (-2), 2) := by decide +kernel
theorem dX9_passes_15 : decode cX9_passes 15 = .ok (.ireturn, 1) := by decide +kernel
theorem dX9_passes_16 : decode cX9_passes 16 = .ok (.aload_n 0, 1) := by decide +kernel
theorem dX9_passes_17 : decode cX9_passes 17 = .ok (.invokevirtual 123, 3) := by decide +kernel
theorem dX9_passes_20 : decode cX9_passes 20 = .ok (.aload_n 0, 1) := by decide +kernel
theorem dX9_passes_21 : decode cX9_passes 21 = .ok (.getfield 7, 3) := by decide +kernel
theorem dX9_passes_24 : decode cX9_passes 24 = .ok (.bipush 7, 2) := by decide +kernel
theorem dX9_passes_26 : decode cX9_passes 26 = .ok (.iaload, 1) := by decide +kernel
theorem dX9_passes_27 : decode cX9_passes 27 = .ok (.aload_n 0, 1) := by decide +kernel
theorem dX9_passes_28 : decode cX9_passes 28 = .ok (.getfield 7, 3) := by decide +kernel
theorem dX9_passes_31 : decode cX9_passes 31 = .ok (.bipush 8, 2) := by decide +kernel
theorem dX9_passes_33 : decode cX9_passes 33 = .ok (.iaload, 1) := by decide +kernel
theorem dX9_passes_34 : decode cX9_passes 34 = .ok (.iadd, 1) := by decide +kernel
theorem dX9_passes_35 : decode cX9_passes 35 = .ok (.istore_n 3, 1) := by decide +kernel
theorem dX9_passes_36 : decode cX9_passes 36 = .ok (.aload_n 0, 1) := by decide +kernel
theorem dX9_passes_37 : decode cX9_passes 37 = .ok (.iload_n 1, 1) := by decide +kernel
theorem dX9_passes_38 : decode cX9_passes 38 = .ok (.iload_n 2, 1) := by decide +kernel
theorem dX9_passes_39 : decode cX9_passes 39 = .ok (.invokevirtual 136, 3) := by decide +kernel
theorem dX9_passes_42 : decode cX9_passes 42 = .ok (.iload_n 3, 1) := by decide +kernel
theorem dX9_passes_43 : decode cX9_passes 43 = .ok (.ireturn, 1) := by decide +kernel
set_option maxRecDepth 20000 in
theorem ggX9_begin_X9_records : GoodIn wsX9_begin wsX9_records := goodIn_r _ [7, 8, 9, 2, 22, 23, 24, 25, 26, 27, 28, 29, 30, 31, 32, 33, 34, 35, 36, 37] (by decide +kernel) (by decide +kernel)
set_option maxRecDepth 20000 in
theorem gX9_begin_X9_records : GoodIn wsX9_begin (wsV RX9 123 RX9 yX9_records wsX9_records) := goodIn_app (goodIn_of _ (by decide +kernel)) ggX9_begin_X9_records
set_option maxRecDepth 20000 in
theorem ggX9_begin_X9_of : GoodIn wsX9_begin wsX9_of := goodIn_r _ [13, 2, 22, 23, 24, 25, 26, 27, 28, 29, 30, 31, 32, 33, 34, 35, 36, 37] (by decide +kernel) (by decide +kernel)
set_option maxRecDepth 20000 in
theorem gX9_begin_X9_of : GoodIn wsX9_begin (wsV RX9 64 RX9 yX9_of wsX9_of) := goodIn_app (goodIn_of _ (by decide +kernel)) ggX9_begin_X9_of
set_option maxRecDepth 20000 in
theorem ggX9_begin_X9_lay : GoodIn wsX9_begin wsX9_lay := goodIn_r _ [17, 2, 22, 23, 24, 25, 26, 27, 28, 29, 30, 31, 32, 33, 34, 35, 36, 37] (by decide +kernel) (by decide +kernel)
set_option maxRecDepth 20000 in
theorem gX9_begin_X9_lay : GoodIn wsX9_begin (wsV RX9 116 RX9 yX9_lay wsX9_lay) := goodIn_app (goodIn_of _ (by decide +kernel)) ggX9_begin_X9_lay
set_option maxRecDepth 20000 in
theorem ggX9_begin_X9_tokens : GoodIn wsX9_begin wsX9_tokens := goodIn_r _ [21, 2, 10, 11, 12, 6, 13, 22, 23, 24, 25, 26, 27, 28, 29, 30, 31, 32, 33, 34, 35, 36, 37] (by decide +kernel) (by decide +kernel)
set_option maxRecDepth 20000 in
theorem gX9_begin_X9_tokens : GoodIn wsX9_begin (wsV RX9 140 RX9 yX9_tokens wsX9_tokens) := goodIn_app (goodIn_of _ (by decide +kernel)) ggX9_begin_X9_tokens
theorem dX9_begin_0 : decode cX9_begin 0 = .ok (.aload_n 0, 1) := by decide +kernel
theorem dX9_begin_1 : decode cX9_begin 1 = .ok (.iconst 0, 1) := by decide +kernel
theorem dX9_begin_2 : decode cX9_begin 2 = .ok (.putfield 41, 3) := by decide +kernel
theorem dX9_begin_5 : decode cX9_begin 5 = .ok (.aload_n 0, 1) := by decide +kernel
theorem dX9_begin_6 : decode cX9_begin 6 = .ok (.invokevirtual 123, 3) := by decide +kernel
theorem dX9_begin_9 : decode cX9_begin 9 = .ok (.iconst 0, 1) := by decide +kernel
theorem dX9_begin_10 : decode cX9_begin 10 = .ok (.istore_n 1, 1) := by decide +kernel
theorem dX9_begin_11 : decode cX9_begin 11 = .ok (.iload_n 1, 1) := by decide +kernel
theorem dX9_begin_12 : decode cX9_begin 12 = .ok (.aload_n 0, 1) := by decide +kernel
theorem dX9_begin_13 : decode cX9_begin 13 = .ok (.getfield 7, 3) := by decide +kernel
theorem dX9_begin_16 : decode cX9_begin 16 = .ok (.iconst 2, 1) := by decide +kernel
theorem dX9_begin_17 : decode cX9_begin 17 = .ok (.iaload, 1) := by decide +kernel
theorem dX9_begin_18 : decode cX9_begin 18 = .ok (.if_icmp .ge 21, 3) := by decide +kernel
theorem dX9_begin_21 : decode cX9_begin 21 = .ok (.aload_n 0, 1) := by decide +kernel
theorem dX9_begin_22 : decode cX9_begin 22 = .ok (.iload_n 1, 1) := by decide +kernel
theorem dX9_begin_23 : decode cX9_begin 23 = .ok (.iconst 0, 1) := by decide +kernel
theorem dX9_begin_24 : decode cX9_begin 24 = .ok (.aload_n 0, 1) := by decide +kernel
theorem dX9_begin_25 : decode cX9_begin 25 = .ok (.iload_n 1, 1) := by decide +kernel
theorem dX9_begin_26 : decode cX9_begin 26 = .ok (.iconst 3, 1) := by decide +kernel
theorem dX9_begin_27 : decode cX9_begin 27 = .ok (.invokevirtual 64, 3) := by decide +kernel
theorem dX9_begin_30 : decode cX9_begin 30 = .ok (.invokevirtual 116, 3) := by decide +kernel
theorem dX9_begin_33 : decode cX9_begin 33 = .ok (.iinc 1 1, 3) := by decide +kernel
theorem dX9_begin_36 : decode cX9_begin 36 = .ok (.goto (-25), 3) := by decide +kernel
theorem dX9_begin_39 : decode cX9_begin 39 = .ok (.aload_n 0, 1) := by decide +kernel
theorem dX9_begin_40 : decode cX9_begin 40 = .ok (.getfield 7, 3) := by decide +kernel
theorem dX9_begin_43 : decode cX9_begin 43 = .ok (.bipush 9, 2) := by decide +kernel
theorem dX9_begin_45 : decode cX9_begin 45 = .ok (.iconst 0, 1) := by decide +kernel
theorem dX9_begin_46 : decode cX9_begin 46 = .ok (.iastore, 1) := by decide +kernel
theorem dX9_begin_47 : decode cX9_begin 47 = .ok (.aload_n 0, 1) := by decide +kernel
theorem dX9_begin_48 : decode cX9_begin 48 = .ok (.getfield 7, 3) := by decide +kernel
theorem dX9_begin_51 : decode cX9_begin 51 = .ok (.bipush 10, 2) := by decide +kernel
theorem dX9_begin_53 : decode cX9_begin 53 = .ok (.iconst 0, 1) := by decide +kernel
theorem dX9_begin_54 : decode cX9_begin 54 = .ok (.iastore, 1) := by decide +kernel
theorem dX9_begin_55 : decode cX9_begin 55 = .ok (.aload_n 0, 1) := by decide +kernel
theorem dX9_begin_56 : decode cX9_begin 56 = .ok (.getfield 7, 3) := by decide +kernel
theorem dX9_begin_59 : decode cX9_begin 59 = .ok (.iconst 3, 1) := by decide +kernel
theorem dX9_begin_60 : decode cX9_begin 60 = .ok (.iconst 0, 1) := by decide +kernel
theorem dX9_begin_61 : decode cX9_begin 61 = .ok (.iastore, 1) := by decide +kernel
theorem dX9_begin_62 : decode cX9_begin 62 = .ok (.aload_n 0, 1) := by decide +kernel
theorem dX9_begin_63 : decode cX9_begin 63 = .ok (.getfield 7, 3) := by decide +kernel
theorem dX9_begin_66 : decode cX9_begin 66 = .ok (.iconst 4, 1) := by decide +kernel
theorem dX9_begin_67 : decode cX9_begin 67 = .ok (.iconst 0, 1) := by decide +kernel
theorem dX9_begin_68 : decode cX9_begin 68 = .ok (.iastore, 1) := by decide +kernel
theorem dX9_begin_69 : decode cX9_begin 69 = .ok (.aload_n 0, 1) := by decide +kernel
theorem dX9_begin_70 : decode cX9_begin 70 = .ok (.getfield 7, 3) := by decide +kernel
theorem dX9_begin_73 : decode cX9_begin 73 = .ok (.iconst 5, 1) := by decide +kernel
theorem dX9_begin_74 : decode cX9_begin 74 = .ok (.iconst 0, 1) := by decide +kernel
theorem dX9_begin_75 : decode cX9_begin 75 = .ok (.iastore, 1) := by decide +kernel
theorem dX9_begin_76 : decode cX9_begin 76 = .ok (.aload_n 0, 1) := by decide +kernel
theorem dX9_begin_77 : decode cX9_begin 77 = .ok (.getfield 7, 3) := by decide +kernel
theorem dX9_begin_80 : decode cX9_begin 80 = .ok (.bipush 6, 2) := by decide +kernel
theorem dX9_begin_82 : decode cX9_begin 82 = .ok (.iconst 0, 1) := by decide +kernel
theorem dX9_begin_83 : decode cX9_begin 83 = .ok (.iastore, 1) := by decide +kernel
theorem dX9_begin_84 : decode cX9_begin 84 = .ok (.aload_n 0, 1) := by decide +kernel
theorem dX9_begin_85 : decode cX9_begin 85 = .ok (.invokevirtual 140, 3) := by decide +kernel
theorem dX9_begin_88 : decode cX9_begin 88 = .ok (.ireturn, 1) := by decide +kernel
set_option maxRecDepth 20000 in
theorem ggX9_refusesTake_X9_isPile : GoodIn wsX9_refusesTake wsX9_isPile := goodIn_r _ [6, 1, 7, 8, 5, 9, 18, 19, 20, 21, 22, 23, 24, 25, 26, 27, 28, 29, 30, 31, 32, 33] (by decide +kernel) (by decide +kernel)
set_option maxRecDepth 20000 in
theorem gX9_refusesTake_X9_isPile : GoodIn wsX9_refusesTake (wsV RX9 143 RX9 yX9_isPile wsX9_isPile) := goodIn_app (goodIn_of _ (by decide +kernel)) ggX9_refusesTake_X9_isPile
set_option maxRecDepth 20000 in
theorem ggX9_refusesTake_X9_isAllowed : GoodIn wsX9_refusesTake wsX9_isAllowed := goodIn_r _ [13, 1, 7, 8, 5, 9, 18, 19, 20, 21, 22, 23, 24, 25, 26, 27, 28, 29, 30, 31, 32, 33] (by decide +kernel) (by decide +kernel)
set_option maxRecDepth 20000 in
theorem gX9_refusesTake_X9_isAllowed : GoodIn wsX9_refusesTake (wsV RX9 56 RX9 yX9_isAllowed wsX9_isAllowed) := goodIn_app (goodIn_of _ (by decide +kernel)) ggX9_refusesTake_X9_isAllowed
set_option maxRecDepth 20000 in
theorem ggX9_refusesTake_X9_of : GoodIn wsX9_refusesTake wsX9_of := goodIn_r _ [17, 1, 18, 19, 20, 21, 22, 23, 24, 25, 26, 27, 28, 29, 30, 31, 32, 33] (by decide +kernel) (by decide +kernel)
set_option maxRecDepth 20000 in
theorem gX9_refusesTake_X9_of : GoodIn wsX9_refusesTake (wsV RX9 64 RX9 yX9_of wsX9_of) := goodIn_app (goodIn_of _ (by decide +kernel)) ggX9_refusesTake_X9_of
theorem dX9_refusesTake_0 : decode cX9_refusesTake 0 = .ok (.aload_n 0, 1) := by decide +kernel
theorem dX9_refusesTake_1 : decode cX9_refusesTake 1 = .ok (.iload_n 1, 1) := by decide +kernel
theorem dX9_refusesTake_2 : decode cX9_refusesTake 2 = .ok (.invokevirtual 143, 3) := by decide +kernel
theorem dX9_refusesTake_5 : decode cX9_refusesTake 5 = .ok (.ifCond .ne 5, 3) := by decide +kernel
theorem dX9_refusesTake_8 : decode cX9_refusesTake 8 = .ok (.iconst (-1), 1) := by decide +kernel
theorem dX9_refusesTake_9 : decode cX9_refusesTake 9 = .ok (.ireturn, 1) := by decide +kernel
theorem dX9_refusesTake_10 : decode cX9_refusesTake 10 = .ok (.aload_n 0, 1) := by decide +kernel
theorem dX9_refusesTake_11 : decode cX9_refusesTake 11 = .ok (.getfield 7, 3) := by decide +kernel
theorem dX9_refusesTake_14 : decode cX9_refusesTake 14 = .ok (.iconst 5, 1) := by decide +kernel
theorem dX9_refusesTake_15 : decode cX9_refusesTake 15 = .ok (.iaload, 1) := by decide +kernel
theorem dX9_refusesTake_16 : decode cX9_refusesTake 16 = .ok (.ifCond .ne 25, 3) := by decide +kernel
theorem dX9_refusesTake_19 : decode cX9_refusesTake 19 = .ok (.aload_n 0, 1) := by decide +kernel
theorem dX9_refusesTake_20 : decode cX9_refusesTake 20 = .ok (.iload_n 2, 1) := by decide +kernel
theorem dX9_refusesTake_21 : decode cX9_refusesTake 21 = .ok (.invokevirtual 56, 3) := by decide +kernel
theorem dX9_refusesTake_24 : decode cX9_refusesTake 24 = .ok (.ifCond .eq 17, 3) := by decide +kernel
theorem dX9_refusesTake_27 : decode cX9_refusesTake 27 = .ok (.aload_n 0, 1) := by decide +kernel
theorem dX9_refusesTake_28 : decode cX9_refusesTake 28 = .ok (.iload_n 1, 1) := by decide +kernel
theorem dX9_refusesTake_29 : decode cX9_refusesTake 29 = .ok (.iconst 0, 1) := by decide +kernel
theorem dX9_refusesTake_30 : decode cX9_refusesTake 30 = .ok (.invokevirtual 64, 3) := by decide +kernel
theorem dX9_refusesTake_33 : decode cX9_refusesTake 33 = .ok (.iload_n 2, 1) := by decide +kernel
theorem dX9_refusesTake_34 : decode cX9_refusesTake 34 = .ok (.if_icmp .lt 7, 3) := by decide +kernel
theorem dX9_refusesTake_37 : decode cX9_refusesTake 37 = .ok (.iconst 1, 1) := by decide +kernel
theorem dX9_refusesTake_38 : decode cX9_refusesTake 38 = .ok (.goto 4, 3) := by decide +kernel
theorem dX9_refusesTake_41 : decode cX9_refusesTake 41 = .ok (.iconst 0, 1) := by decide +kernel
theorem dX9_refusesTake_42 : decode cX9_refusesTake 42 = .ok (.istore_n 3, 1) := by decide +kernel
theorem dX9_refusesTake_43 : decode cX9_refusesTake 43 = .ok (.iload_n 3, 1) := by decide +kernel
theorem dX9_refusesTake_44 : decode cX9_refusesTake 44 = .ok (.ifCond .eq 7, 3) := by decide +kernel
theorem dX9_refusesTake_47 : decode cX9_refusesTake 47 = .ok (.iconst 0, 1) := by decide +kernel
theorem dX9_refusesTake_48 : decode cX9_refusesTake 48 = .ok (.goto 5, 3) := by decide +kernel
theorem dX9_refusesTake_51 : decode cX9_refusesTake 51 = .ok (.bipush (-5), 2) := by decide +kernel
theorem dX9_refusesTake_53 : decode cX9_refusesTake 53 = .ok (.ireturn, 1) := by decide +kernel
set_option maxRecDepth 20000 in
theorem ggX9_take_X9_refusesTake : GoodIn wsX9_take wsX9_refusesTake := goodIn_r _ [6, 7, 8, 9, 10, 5, 11, 12, 13, 14, 15, 16, 17, 18, 19, 20, 21, 22, 55, 56, 57, 58, 59, 60, 61, 62, 63, 64, 65, 66, 67, 68, 69, 70] (by decide +kernel) (by decide +kernel)
set_option maxRecDepth 20000 in
theorem gX9_take_X9_refusesTake : GoodIn wsX9_take (wsV RX9 146 RX9 yX9_refusesTake wsX9_refusesTake) := goodIn_app (goodIn_of _ (by decide +kernel)) ggX9_take_X9_refusesTake
set_option maxRecDepth 20000 in
theorem ggX9_take_X9_records : GoodIn wsX9_take wsX9_records := goodIn_r _ [26, 27, 28, 7, 55, 56, 57, 58, 59, 60, 61, 62, 63, 64, 65, 66, 67, 68, 69, 70] (by decide +kernel) (by decide +kernel)
set_option maxRecDepth 20000 in
theorem gX9_take_X9_records : GoodIn wsX9_take (wsV RX9 123 RX9 yX9_records wsX9_records) := goodIn_app (goodIn_of _ (by decide +kernel)) ggX9_take_X9_records
set_option maxRecDepth 20000 in
theorem ggX9_take_X9_does : GoodIn wsX9_take wsX9_does := goodIn_r _ [32, 7, 33, 34, 35, 5, 36, 19, 20, 21, 22, 37, 38, 39, 40, 41, 42, 43, 44, 45, 46, 47, 48, 49, 50, 51, 52, 53, 54, 55, 56, 57, 58, 59, 60, 61, 62, 63, 64, 65, 66, 67, 68, 69, 70] (by decide +kernel) (by decide +kernel)
set_option maxRecDepth 20000 in
theorem gX9_take_X9_does : GoodIn wsX9_take (wsV RX9 149 RX9 yX9_does wsX9_does) := goodIn_app (goodIn_of _ (by decide +kernel)) ggX9_take_X9_does
set_option maxRecDepth 20000 in
theorem ggX9_take_X9_of : GoodIn wsX9_take wsX9_of := goodIn_r _ [22, 7, 55, 56, 57, 58, 59, 60, 61, 62, 63, 64, 65, 66, 67, 68, 69, 70] (by decide +kernel) (by decide +kernel)
set_option maxRecDepth 20000 in
theorem gX9_take_X9_of : GoodIn wsX9_take (wsV RX9 64 RX9 yX9_of wsX9_of) := goodIn_app (goodIn_of _ (by decide +kernel)) ggX9_take_X9_of
theorem dX9_take_0 : decode cX9_take 0 = .ok (.aload_n 0, 1) := by decide +kernel
theorem dX9_take_1 : decode cX9_take 1 = .ok (.iconst 0, 1) := by decide +kernel
theorem dX9_take_2 : decode cX9_take 2 = .ok (.putfield 41, 3) := by decide +kernel
theorem dX9_take_5 : decode cX9_take 5 = .ok (.aload_n 0, 1) := by decide +kernel
theorem dX9_take_6 : decode cX9_take 6 = .ok (.iload_n 1, 1) := by decide +kernel
theorem dX9_take_7 : decode cX9_take 7 = .ok (.iload_n 2, 1) := by decide +kernel
theorem dX9_take_8 : decode cX9_take 8 = .ok (.invokevirtual 146, 3) := by decide +kernel
theorem dX9_take_11 : decode cX9_take 11 = .ok (.istore_n 3, 1) := by decide +kernel
theorem dX9_take_12 : decode cX9_take 12 = .ok (.iload_n 3, 1) := by decide +kernel
theorem dX9_take_13 : decode cX9_take 13 = .ok (.ifCond .eq 5, 3) := by decide +kernel
theorem dX9_take_16 : decode cX9_take 16 = .ok (.iload_n 3, 1) := by decide +kernel
theorem dX9_take_17 : decode cX9_take 17 = .ok (.ireturn, 1) := by decide +kernel
theorem dX9_take_18 : decode cX9_take 18 = .ok (.aload_n 0, 1) := by decide +kernel
theorem dX9_take_19 : decode cX9_take 19 = .ok (.invokevirtual 123, 3) := by decide +kernel
theorem dX9_take_22 : decode cX9_take 22 = .ok (.aload_n 0, 1) := by decide +kernel
theorem dX9_take_23 : decode cX9_take 23 = .ok (.iconst 5, 1) := by decide +kernel
theorem dX9_take_24 : decode cX9_take 24 = .ok (.iload_n 1, 1) := by decide +kernel
theorem dX9_take_25 : decode cX9_take 25 = .ok (.imul, 1) := by decide +kernel
theorem dX9_take_26 : decode cX9_take 26 = .ok (.iload_n 2, 1) := by decide +kernel
theorem dX9_take_27 : decode cX9_take 27 = .ok (.iadd, 1) := by decide +kernel
theorem dX9_take_28 : decode cX9_take 28 = .ok (.iconst 1, 1) := by decide +kernel
theorem dX9_take_29 : decode cX9_take 29 = .ok (.isub, 1) := by decide +kernel
theorem dX9_take_30 : decode cX9_take 30 = .ok (.invokevirtual 149, 3) := by decide +kernel
theorem dX9_take_33 : decode cX9_take 33 = .ok (.iload_n 2, 1) := by decide +kernel
theorem dX9_take_34 : decode cX9_take 34 = .ok (.aload_n 0, 1) := by decide +kernel
theorem dX9_take_35 : decode cX9_take 35 = .ok (.iload_n 1, 1) := by decide +kernel
theorem dX9_take_36 : decode cX9_take 36 = .ok (.iconst 1, 1) := by decide +kernel
theorem dX9_take_37 : decode cX9_take 37 = .ok (.invokevirtual 64, 3) := by decide +kernel
theorem dX9_take_40 : decode cX9_take 40 = .ok (.imul, 1) := by decide +kernel
theorem dX9_take_41 : decode cX9_take 41 = .ok (.ireturn, 1) := by decide +kernel
set_option maxRecDepth 20000 in
theorem ggX9_canPass_X9_movesNow : GoodIn wsX9_canPass wsX9_movesNow := goodIn_r _ [5, 6, 7, 8, 9, 4, 10, 11, 12, 13, 14, 15, 16, 17, 18, 19, 20, 21, 22, 23, 24, 25, 26, 27, 28, 29, 30, 31, 32, 33, 34, 35, 36, 37, 38, 39, 40, 41, 42, 43, 44, 45, 46, 47, 48, 49, 50, 51] (by decide +kernel) (by decide +kernel)
set_option maxRecDepth 20000 in
theorem gX9_canPass_X9_movesNow : GoodIn wsX9_canPass (wsV RX9 109 RX9 yX9_movesNow wsX9_movesNow) := goodIn_app (goodIn_of _ (by decide +kernel)) ggX9_canPass_X9_movesNow
theorem dX9_canPass_0 : decode cX9_canPass 0 = .ok (.aload_n 0, 1) := by decide +kernel
theorem dX9_canPass_1 : decode cX9_canPass 1 = .ok (.invokevirtual 109, 3) := by decide +kernel
theorem dX9_canPass_4 : decode cX9_canPass 4 = .ok (.bipush 20, 2) := by decide +kernel
theorem dX9_canPass_6 : decode cX9_canPass 6 = .ok (.ishr, 1) := by decide +kernel
theorem dX9_canPass_7 : decode cX9_canPass 7 = .ok (.iconst 1, 1) := by decide +kernel
theorem dX9_canPass_8 : decode cX9_canPass 8 = .ok (.iand, 1) := by decide +kernel
theorem dX9_canPass_9 : decode cX9_canPass 9 = .ok (.iconst 1, 1) := by decide +kernel
theorem dX9_canPass_10 : decode cX9_canPass 10 = .ok (.if_icmp .ne 7, 3) := by decide +kernel
theorem dX9_canPass_13 : decode cX9_canPass 13 = .ok (.iconst 1, 1) := by decide +kernel
theorem dX9_canPass_14 : decode cX9_canPass 14 = .ok (.goto 4, 3) := by decide +kernel
theorem dX9_canPass_17 : decode cX9_canPass 17 = .ok (.iconst 0, 1) := by decide +kernel
theorem dX9_canPass_18 : decode cX9_canPass 18 = .ok (.ireturn, 1) := by decide +kernel
set_option maxRecDepth 20000 in
theorem ggX9_pass_X9_canPass : GoodIn wsX9_pass wsX9_canPass := goodIn_r _ [7, 8, 9, 10, 6, 11, 2, 12, 13, 14, 15, 16, 17, 18, 19, 20, 21, 22, 23, 24, 25, 26, 27, 28, 29, 30, 31, 32, 33, 34, 35, 36, 37, 38, 39, 40, 63, 64, 65, 66, 67, 68, 69, 70, 71, 72, 73, 74, 75, 76, 77, 78] (by decide +kernel) (by decide +kernel)
set_option maxRecDepth 20000 in
theorem gX9_pass_X9_canPass : GoodIn wsX9_pass (wsV RX9 152 RX9 yX9_canPass wsX9_canPass) := goodIn_app (goodIn_of _ (by decide +kernel)) ggX9_pass_X9_canPass
set_option maxRecDepth 20000 in
theorem ggX9_pass_X9_records : GoodIn wsX9_pass wsX9_records := goodIn_r _ [44, 45, 46, 2, 63, 64, 65, 66, 67, 68, 69, 70, 71, 72, 73, 74, 75, 76, 77, 78] (by decide +kernel) (by decide +kernel)
set_option maxRecDepth 20000 in
theorem gX9_pass_X9_records : GoodIn wsX9_pass (wsV RX9 123 RX9 yX9_records wsX9_records) := goodIn_app (goodIn_of _ (by decide +kernel)) ggX9_pass_X9_records
set_option maxRecDepth 20000 in
theorem ggX9_pass_X9_does : GoodIn wsX9_pass wsX9_does := goodIn_r _ [50, 2, 51, 52, 53, 6, 54, 19, 20, 21, 22, 12, 13, 14, 15, 16, 17, 18, 55, 56, 57, 58, 38, 39, 40, 59, 60, 61, 62, 63, 64, 65, 66, 67, 68, 69, 70, 71, 72, 73, 74, 75, 76, 77, 78] (by decide +kernel) (by decide +kernel)
set_option maxRecDepth 20000 in
theorem gX9_pass_X9_does : GoodIn wsX9_pass (wsV RX9 149 RX9 yX9_does wsX9_does) := goodIn_app (goodIn_of _ (by decide +kernel)) ggX9_pass_X9_does
theorem dX9_pass_0 : decode cX9_pass 0 = .ok (.aload_n 0, 1) := by decide +kernel
theorem dX9_pass_1 : decode cX9_pass 1 = .ok (.iconst 0, 1) := by decide +kernel
theorem dX9_pass_2 : decode cX9_pass 2 = .ok (.putfield 41, 3) := by decide +kernel
theorem dX9_pass_5 : decode cX9_pass 5 = .ok (.aload_n 0, 1) := by decide +kernel
theorem dX9_pass_6 : decode cX9_pass 6 = .ok (.invokevirtual 152, 3) := by decide +kernel
theorem dX9_pass_9 : decode cX9_pass 9 = .ok (.ifCond .ne 6, 3) := by decide +kernel
theorem dX9_pass_12 : decode cX9_pass 12 = .ok (.bipush (-5), 2) := by decide +kernel
theorem dX9_pass_14 : decode cX9_pass 14 = .ok (.ireturn, 1) := by decide +kernel
theorem dX9_pass_15 : decode cX9_pass 15 = .ok (.aload_n 0, 1) := by decide +kernel
theorem dX9_pass_16 : decode cX9_pass 16 = .ok (.invokevirtual 123, 3) := by decide +kernel
theorem dX9_pass_19 : decode cX9_pass 19 = .ok (.aload_n 0, 1) := by decide +kernel
theorem dX9_pass_20 : decode cX9_pass 20 = .ok (.bipush 20, 2) := by decide +kernel
theorem dX9_pass_22 : decode cX9_pass 22 = .ok (.invokevirtual 149, 3) := by decide +kernel
theorem dX9_pass_25 : decode cX9_pass 25 = .ok (.aload_n 0, 1) := by decide +kernel
theorem dX9_pass_26 : decode cX9_pass 26 = .ok (.getfield 7, 3) := by decide +kernel
theorem dX9_pass_29 : decode cX9_pass 29 = .ok (.bipush 8, 2) := by decide +kernel
theorem dX9_pass_31 : decode cX9_pass 31 = .ok (.aload_n 0, 1) := by decide +kernel
theorem dX9_pass_32 : decode cX9_pass 32 = .ok (.getfield 7, 3) := by decide +kernel
theorem dX9_pass_35 : decode cX9_pass 35 = .ok (.iconst 3, 1) := by decide +kernel
theorem dX9_pass_36 : decode cX9_pass 36 = .ok (.iaload, 1) := by decide +kernel
theorem dX9_pass_37 : decode cX9_pass 37 = .ok (.isub, 1) := by decide +kernel
theorem dX9_pass_38 : decode cX9_pass 38 = .ok (.iaload, 1) := by decide +kernel
theorem dX9_pass_39 : decode cX9_pass 39 = .ok (.ireturn, 1) := by decide +kernel
set_option maxRecDepth 20000 in
theorem ggX9_plays_X9_reckonsAll : GoodIn wsX9_plays wsX9_reckonsAll := goodIn_r _ [5, 6, 7, 8, 4, 9, 10, 11, 12, 13, 14, 15, 16, 17, 18, 19, 20, 21, 22, 23, 24, 25, 26, 27, 28, 29, 30, 31, 32, 33, 34, 35, 36, 37, 38, 39, 40, 41, 42, 43, 44, 45, 46, 47, 48, 49, 50, 51, 52, 53, 54, 55, 56, 57, 58, 59, 60, 61, 62, 63, 96, 97, 98, 99, 100, 101, 102, 103, 104, 105, 106, 107, 108, 109, 110, 111] (by decide +kernel) (by decide +kernel)
set_option maxRecDepth 20000 in
theorem gX9_plays_X9_reckonsAll : GoodIn wsX9_plays (wsV RX9 155 RX9 yX9_reckonsAll wsX9_reckonsAll) := goodIn_app (goodIn_of _ (by decide +kernel)) ggX9_plays_X9_reckonsAll
set_option maxRecDepth 20000 in
theorem ggX9_plays_X9_isOver : GoodIn wsX9_plays wsX9_isOver := goodIn_r _ [67, 68, 69, 70, 4, 71, 20, 72, 73, 74, 75, 13, 14, 15, 16, 17, 18, 19, 76, 77, 78, 79, 34, 35, 36, 37, 38, 39, 40, 41, 25, 26, 27, 10, 11, 12, 96, 97, 98, 99, 100, 101, 102, 103, 104, 105, 106, 107, 108, 109, 110, 111] (by decide +kernel) (by decide +kernel)
set_option maxRecDepth 20000 in
theorem gX9_plays_X9_isOver : GoodIn wsX9_plays (wsV RX9 112 RX9 yX9_isOver wsX9_isOver) := goodIn_app (goodIn_of _ (by decide +kernel)) ggX9_plays_X9_isOver
set_option maxRecDepth 20000 in
theorem ggX9_plays_X9_bestMove : GoodIn wsX9_plays wsX9_bestMove := goodIn_r _ [83, 68, 69, 70, 4, 71, 20, 72, 73, 74, 75, 13, 14, 15, 16, 17, 18, 19, 76, 77, 78, 79, 34, 35, 36, 37, 38, 39, 40, 41, 25, 26, 27, 10, 11, 12, 84, 85, 86, 87, 42, 43, 44, 45, 32, 46, 47, 48, 49, 50, 51, 52, 53, 54, 55, 56, 57, 58, 59, 96, 97, 98, 99, 100, 101, 102, 103, 104, 105, 106, 107, 108, 109, 110, 111] (by decide +kernel) (by decide +kernel)
set_option maxRecDepth 20000 in
theorem gX9_plays_X9_bestMove : GoodIn wsX9_plays (wsV RX9 158 RX9 yX9_bestMove wsX9_bestMove) := goodIn_app (goodIn_of _ (by decide +kernel)) ggX9_plays_X9_bestMove
set_option maxRecDepth 20000 in
theorem ggX9_plays_X9_does : GoodIn wsX9_plays wsX9_does := goodIn_r _ [91, 20, 46, 47, 48, 4, 49, 16, 17, 18, 19, 72, 73, 74, 75, 13, 14, 15, 50, 51, 52, 53, 10, 11, 12, 92, 93, 94, 95, 96, 97, 98, 99, 100, 101, 102, 103, 104, 105, 106, 107, 108, 109, 110, 111] (by decide +kernel) (by decide +kernel)
set_option maxRecDepth 20000 in
theorem gX9_plays_X9_does : GoodIn wsX9_plays (wsV RX9 149 RX9 yX9_does wsX9_does) := goodIn_app (goodIn_of _ (by decide +kernel)) ggX9_plays_X9_does
theorem dX9_plays_0 : decode cX9_plays 0 = .ok (.aload_n 0, 1) := by decide +kernel
theorem dX9_plays_1 : decode cX9_plays 1 = .ok (.invokevirtual 155, 3) := by decide +kernel
theorem dX9_plays_4 : decode cX9_plays 4 = .ok (.iconst 0, 1) := by decide +kernel
theorem dX9_plays_5 : decode cX9_plays 5 = .ok (.istore_n 2, 1) := by decide +kernel
theorem dX9_plays_6 : decode cX9_plays 6 = .ok (.iload_n 2, 1) := by decide +kernel
theorem dX9_plays_7 : decode cX9_plays 7 = .ok (.iload_n 1, 1) := by decide +kernel
theorem dX9_plays_8 : decode cX9_plays 8 = .ok (.if_icmp .ge 24, 3) := by decide +kernel
theorem dX9_plays_11 : decode cX9_plays 11 = .ok (.aload_n 0, 1) := by decide +kernel
theorem dX9_plays_12 : decode cX9_plays 12 = .ok (.invokevirtual 112, 3) := by decide +kernel
theorem dX9_plays_15 : decode cX9_plays 15 = .ok (.ifCond .ne 17, 3) := by decide +kernel
theorem dX9_plays_18 : decode cX9_plays 18 = .ok (.aload_n 0, 1) := by decide +kernel
theorem dX9_plays_19 : decode cX9_plays 19 = .ok (.aload_n 0, 1) := by decide +kernel
theorem dX9_plays_20 : decode cX9_plays 20 = .ok (.invokevirtual 158, 3) := by decide +kernel
theorem dX9_plays_23 : decode cX9_plays 23 = .ok (.invokevirtual 149, 3) := by decide +kernel
theorem dX9_plays_26 : decode cX9_plays 26 = .ok (.iinc 2 1, 3) := by decide +kernel
theorem dX9_plays_29 : decode cX9_plays 29 = .ok (.goto (-23), 3) := by decide +kernel
theorem dX9_plays_32 : decode cX9_plays 32 = .ok (.iload_n 2, 1) := by decide +kernel
theorem dX9_plays_33 : decode cX9_plays 33 = .ok (.ireturn, 1) := by decide +kernel
set_option maxRecDepth 20000 in
theorem ggX9_play_X9_in : GoodIn wsX9_play wsX9_in := goodIn_r _ [5] (by decide +kernel) (by decide +kernel)
set_option maxRecDepth 20000 in
theorem gX9_play_X9_in : GoodIn wsX9_play (va_wsS RX9 45 yX9_in wsX9_in) := goodIn_app (goodIn_of _ (by decide +kernel)) ggX9_play_X9_in
set_option maxRecDepth 20000 in
theorem ggX9_play_X9_isOver : GoodIn wsX9_play wsX9_isOver := goodIn_r _ [9, 10, 11, 12, 4, 13, 14, 15, 16, 17, 18, 19, 20, 21, 22, 23, 24, 25, 26, 27, 28, 29, 30, 31, 32, 33, 34, 35, 36, 37, 2, 3, 5, 38, 39, 40, 107, 108, 109, 110, 111, 112, 113, 114, 115, 116, 117, 118, 119, 120, 121, 122] (by decide +kernel) (by decide +kernel)
set_option maxRecDepth 20000 in
theorem gX9_play_X9_isOver : GoodIn wsX9_play (wsV RX9 112 RX9 yX9_isOver wsX9_isOver) := goodIn_app (goodIn_of _ (by decide +kernel)) ggX9_play_X9_isOver
set_option maxRecDepth 20000 in
theorem ggX9_play_X9_records : GoodIn wsX9_play wsX9_records := goodIn_r _ [44, 45, 46, 14, 107, 108, 109, 110, 111, 112, 113, 114, 115, 116, 117, 118, 119, 120, 121, 122] (by decide +kernel) (by decide +kernel)
set_option maxRecDepth 20000 in
theorem gX9_play_X9_records : GoodIn wsX9_play (wsV RX9 123 RX9 yX9_records wsX9_records) := goodIn_app (goodIn_of _ (by decide +kernel)) ggX9_play_X9_records
set_option maxRecDepth 20000 in
theorem ggX9_play_X9_plays : GoodIn wsX9_play wsX9_plays := goodIn_r _ [50, 51, 52, 53, 4, 54, 55, 56, 57, 58, 38, 39, 40, 19, 20, 21, 22, 23, 24, 25, 14, 59, 60, 61, 62, 2, 3, 5, 63, 64, 65, 66, 67, 68, 30, 31, 32, 33, 34, 35, 36, 37, 69, 70, 71, 72, 73, 74, 75, 76, 77, 78, 79, 80, 81, 82, 83, 84, 85, 86, 87, 88, 89, 90, 6, 7, 8, 9, 10, 11, 12, 13, 15, 16, 17, 18, 26, 27, 28, 29, 91, 92, 93, 94, 95, 96, 97, 98, 99, 100, 101, 102, 103, 104, 105, 106, 107, 108, 109, 110, 111, 112, 113, 114, 115, 116, 117, 118, 119, 120, 121, 122] (by decide +kernel) (by decide +kernel)
set_option maxRecDepth 20000 in
theorem gX9_play_X9_plays : GoodIn wsX9_play (wsV RX9 161 RX9 yX9_plays wsX9_plays) := goodIn_app (goodIn_of _ (by decide +kernel)) ggX9_play_X9_plays
theorem dX9_play_0 : decode cX9_play 0 = .ok (.aload_n 0, 1) := by decide +kernel
theorem dX9_play_1 : decode cX9_play 1 = .ok (.iconst 0, 1) := by decide +kernel
theorem dX9_play_2 : decode cX9_play 2 = .ok (.putfield 41, 3) := by decide +kernel
theorem dX9_play_5 : decode cX9_play 5 = .ok (.iload_n 1, 1) := by decide +kernel
theorem dX9_play_6 : decode cX9_play 6 = .ok (.iconst 1, 1) := by decide +kernel
theorem dX9_play_7 : decode cX9_play 7 = .ok (.bipush 40, 2) := by decide +kernel
theorem dX9_play_9 : decode cX9_play 9 = .ok (.invokestatic 45, 3) := by decide +kernel
theorem dX9_play_12 : decode cX9_play 12 = .ok (.ifCond .ne 6, 3) := by decide +kernel
theorem dX9_play_15 : decode cX9_play 15 = .ok (.bipush (-2), 2) := by decide +kernel
theorem dX9_play_17 : decode cX9_play 17 = .ok (.ireturn, 1) := by decide +kernel
theorem dX9_play_18 : decode cX9_play 18 = .ok (.aload_n 0, 1) := by decide +kernel
theorem dX9_play_19 : decode cX9_play 19 = .ok (.invokevirtual 112, 3) := by decide +kernel
theorem dX9_play_22 : decode cX9_play 22 = .ok (.ifCond .eq 6, 3) := by decide +kernel
theorem dX9_play_25 : decode cX9_play 25 = .ok (.bipush (-5), 2) := by decide +kernel
theorem dX9_play_27 : decode cX9_play 27 = .ok (.ireturn, 1) := by decide +kernel
theorem dX9_play_28 : decode cX9_play 28 = .ok (.aload_n 0, 1) := by decide +kernel
theorem dX9_play_29 : decode cX9_play 29 = .ok (.invokevirtual 123, 3) := by decide +kernel
theorem dX9_play_32 : decode cX9_play 32 = .ok (.aload_n 0, 1) := by decide +kernel
theorem dX9_play_33 : decode cX9_play 33 = .ok (.iload_n 1, 1) := by decide +kernel
theorem dX9_play_34 : decode cX9_play 34 = .ok (.invokevirtual 161, 3) := by decide +kernel
theorem dX9_play_37 : decode cX9_play 37 = .ok (.ireturn, 1) := by decide +kernel
set_option maxRecDepth 20000 in
theorem ggX9_laysGrundies_X9_isAllowed : GoodIn wsX9_laysGrundies wsX9_isAllowed := goodIn_r _ [6, 7, 8, 9, 5, 10, 11, 12, 13, 14, 15, 16, 17, 18, 19, 20, 21, 22, 23, 24, 25, 26] (by decide +kernel) (by decide +kernel)
set_option maxRecDepth 20000 in
theorem gX9_laysGrundies_X9_isAllowed : GoodIn wsX9_laysGrundies (wsV RX9 56 RX9 yX9_isAllowed wsX9_isAllowed) := goodIn_app (goodIn_of _ (by decide +kernel)) ggX9_laysGrundies_X9_isAllowed
theorem dX9_laysGrundies_0 : decode cX9_laysGrundies 0 = .ok (.iconst 0, 1) := by decide +kernel
theorem dX9_laysGrundies_1 : decode cX9_laysGrundies 1 = .ok (.istore_n 1, 1) := by decide +kernel
theorem dX9_laysGrundies_2 : decode cX9_laysGrundies 2 = .ok (.iload_n 1, 1) := by decide +kernel
theorem dX9_laysGrundies_3 : decode cX9_laysGrundies 3 = .ok (.sipush 200, 3) := by decide +kernel
theorem dX9_laysGrundies_6 : decode cX9_laysGrundies 6 = .ok (.if_icmp .gt 78, 3) := by decide +kernel
theorem dX9_laysGrundies_9 : decode cX9_laysGrundies 9 = .ok (.iconst 0, 1) := by decide +kernel
theorem dX9_laysGrundies_10 : decode cX9_laysGrundies 10 = .ok (.istore_n 2, 1) := by decide +kernel
theorem dX9_laysGrundies_11 : decode cX9_laysGrundies 11 = .ok (.iconst 1, 1) := by decide +kernel
theorem dX9_laysGrundies_12 : decode cX9_laysGrundies 12 = .ok (.istore_n 3, 1) := by decide +kernel
theorem dX9_laysGrundies_13 : decode cX9_laysGrundies 13 = .ok (.iload_n 3, 1) := by decide +kernel
theorem dX9_laysGrundies_14 : decode cX9_laysGrundies 14 = .ok (.iconst 5, 1) := by decide +kernel
theorem dX9_laysGrundies_15 : decode cX9_laysGrundies 15 = .ok (.if_icmp .gt 39, 3) := by decide +kernel
theorem dX9_laysGrundies_18 : decode cX9_laysGrundies 18 = .ok (.iload_n 2, 1) := by decide +kernel
theorem dX9_laysGrundies_19 : decode cX9_laysGrundies 19 = .ok (.aload_n 0, 1) := by decide +kernel
theorem dX9_laysGrundies_20 : decode cX9_laysGrundies 20 = .ok (.iload_n 3, 1) := by decide +kernel
theorem dX9_laysGrundies_21 : decode cX9_laysGrundies 21 = .ok (.invokevirtual 56, 3) := by decide +kernel
theorem dX9_laysGrundies_24 : decode cX9_laysGrundies 24 = .ok (.ifCond .eq 21, 3) := by decide +kernel
theorem dX9_laysGrundies_27 : decode cX9_laysGrundies 27 = .ok (.iload_n 3, 1) := by decide +kernel
theorem dX9_laysGrundies_28 : decode cX9_laysGrundies 28 = .ok (.iload_n 1, 1) := by decide +kernel
theorem dX9_laysGrundies_29 : decode cX9_laysGrundies 29 = .ok (.if_icmp .gt 16, 3) := by decide +kernel
theorem dX9_laysGrundies_32 : decode cX9_laysGrundies 32 = .ok (.iconst 1, 1) := by decide +kernel
theorem dX9_laysGrundies_33 : decode cX9_laysGrundies 33 = .ok (.aload_n 0, 1) := by decide +kernel
theorem dX9_laysGrundies_34 : decode cX9_laysGrundies 34 = .ok (.getfield 35, 3) := by decide +kernel
theorem dX9_laysGrundies_37 : decode cX9_laysGrundies 37 = .ok (.iload_n 1, 1) := by decide +kernel
theorem dX9_laysGrundies_38 : decode cX9_laysGrundies 38 = .ok (.iload_n 3, 1) := by decide +kernel
theorem dX9_laysGrundies_39 : decode cX9_laysGrundies 39 = .ok (.isub, 1) := by decide +kernel
theorem dX9_laysGrundies_40 : decode cX9_laysGrundies 40 = .ok (.iaload, 1) := by decide +kernel
theorem dX9_laysGrundies_41 : decode cX9_laysGrundies 41 = .ok (.ishl, 1) := by decide +kernel
theorem dX9_laysGrundies_42 : decode cX9_laysGrundies 42 = .ok (.goto 4, 3) := by decide +kernel
theorem dX9_laysGrundies_45 : decode cX9_laysGrundies 45 = .ok (.iconst 0, 1) := by decide +kernel
theorem dX9_laysGrundies_46 : decode cX9_laysGrundies 46 = .ok (.ior, 1) := by decide +kernel
theorem dX9_laysGrundies_47 : decode cX9_laysGrundies 47 = .ok (.istore_n 2, 1) := by decide +kernel
theorem dX9_laysGrundies_48 : decode cX9_laysGrundies 48 = .ok (.iinc 3 1, 3) := by decide +kernel
theorem dX9_laysGrundies_51 : decode cX9_laysGrundies 51 = .ok (.goto (-38), 3) := by decide +kernel
theorem dX9_laysGrundies_54 : decode cX9_laysGrundies 54 = .ok (.iconst 0, 1) := by decide +kernel
theorem dX9_laysGrundies_55 : decode cX9_laysGrundies 55 = .ok (.istore_n 3, 1) := by decide +kernel
theorem dX9_laysGrundies_56 : decode cX9_laysGrundies 56 = .ok (.iload_n 2, 1) := by decide +kernel
theorem dX9_laysGrundies_57 : decode cX9_laysGrundies 57 = .ok (.iload_n 3, 1) := by decide +kernel
theorem dX9_laysGrundies_58 : decode cX9_laysGrundies 58 = .ok (.ishr, 1) := by decide +kernel
theorem dX9_laysGrundies_59 : decode cX9_laysGrundies 59 = .ok (.iconst 1, 1) := by decide +kernel
theorem dX9_laysGrundies_60 : decode cX9_laysGrundies 60 = .ok (.iand, 1) := by decide +kernel
theorem dX9_laysGrundies_61 : decode cX9_laysGrundies 61 = .ok (.iconst 1, 1) := by decide +kernel
theorem dX9_laysGrundies_62 : decode cX9_laysGrundies 62 = .ok (.if_icmp .ne 9, 3) := by decide +kernel
theorem dX9_laysGrundies_65 : decode cX9_laysGrundies 65 = .ok (.iinc 3 1, 3) := by decide +kernel
theorem dX9_laysGrundies_68 : decode cX9_laysGrundies 68 = .ok (.goto (-12), 3) := by decide +kernel
theorem dX9_laysGrundies_71 : decode cX9_laysGrundies 71 = .ok (.aload_n 0, 1) := by decide +kernel
theorem dX9_laysGrundies_72 : decode cX9_laysGrundies 72 = .ok (.getfield 35, 3) := by decide +kernel
theorem dX9_laysGrundies_75 : decode cX9_laysGrundies 75 = .ok (.iload_n 1, 1) := by decide +kernel
theorem dX9_laysGrundies_76 : decode cX9_laysGrundies 76 = .ok (.iload_n 3, 1) := by decide +kernel
theorem dX9_laysGrundies_77 : decode cX9_laysGrundies 77 = .ok (.iastore, 1) := by decide +kernel
theorem dX9_laysGrundies_78 : decode cX9_laysGrundies 78 = .ok (.iinc 1 1, 3) := by decide +kernel
theorem dX9_laysGrundies_81 : decode cX9_laysGrundies 81 = .ok (.goto (-79), 3) := by decide +kernel
theorem dX9_laysGrundies_84 : decode cX9_laysGrundies 84 = .ok (.return_, 1) := by decide +kernel
set_option maxRecDepth 20000 in
theorem ggX9_grundyOf_X9_laysGrundies : GoodIn wsX9_grundyOf wsX9_laysGrundies := goodIn_r _ [6, 1, 7, 8, 9, 5, 10, 11, 12, 13, 14, 15, 16, 17, 18, 19, 20, 21, 22, 23, 24, 25, 26, 27, 28, 29, 30] (by decide +kernel) (by decide +kernel)
set_option maxRecDepth 20000 in
theorem gX9_grundyOf_X9_laysGrundies : GoodIn wsX9_grundyOf (wsV RX9 164 RX9 yX9_laysGrundies wsX9_laysGrundies) := goodIn_app (goodIn_of _ (by decide +kernel)) ggX9_grundyOf_X9_laysGrundies
theorem dX9_grundyOf_0 : decode cX9_grundyOf 0 = .ok (.aload_n 0, 1) := by decide +kernel
theorem dX9_grundyOf_1 : decode cX9_grundyOf 1 = .ok (.invokevirtual 164, 3) := by decide +kernel
theorem dX9_grundyOf_4 : decode cX9_grundyOf 4 = .ok (.aload_n 0, 1) := by decide +kernel
theorem dX9_grundyOf_5 : decode cX9_grundyOf 5 = .ok (.getfield 35, 3) := by decide +kernel
theorem dX9_grundyOf_8 : decode cX9_grundyOf 8 = .ok (.iload_n 1, 1) := by decide +kernel
theorem dX9_grundyOf_9 : decode cX9_grundyOf 9 = .ok (.iaload, 1) := by decide +kernel
theorem dX9_grundyOf_10 : decode cX9_grundyOf 10 = .ok (.ireturn, 1) := by decide +kernel
set_option maxRecDepth 20000 in
theorem ggX9_ofPile_X9_isPile : GoodIn wsX9_ofPile wsX9_isPile := goodIn_r _ [6, 7, 8, 9, 5, 10, 28, 29, 30, 31, 32, 33, 34, 35, 36, 37, 38, 39, 40, 41, 42, 43] (by decide +kernel) (by decide +kernel)
set_option maxRecDepth 20000 in
theorem gX9_ofPile_X9_isPile : GoodIn wsX9_ofPile (wsV RX9 143 RX9 yX9_isPile wsX9_isPile) := goodIn_app (goodIn_of _ (by decide +kernel)) ggX9_ofPile_X9_isPile
set_option maxRecDepth 20000 in
theorem ggX9_ofPile_X9_of : GoodIn wsX9_ofPile wsX9_of := goodIn_r _ [14, 7, 28, 29, 30, 31, 32, 33, 34, 35, 36, 37, 38, 39, 40, 41, 42, 43] (by decide +kernel) (by decide +kernel)
set_option maxRecDepth 20000 in
theorem gX9_ofPile_X9_of : GoodIn wsX9_ofPile (wsV RX9 64 RX9 yX9_of wsX9_of) := goodIn_app (goodIn_of _ (by decide +kernel)) ggX9_ofPile_X9_of
set_option maxRecDepth 20000 in
theorem ggX9_ofPile_X9_grundyOf : GoodIn wsX9_ofPile wsX9_grundyOf := goodIn_r _ [18, 19, 20, 21, 22, 5, 23, 24, 25, 26, 27, 7, 8, 9, 10, 28, 29, 30, 31, 32, 33, 34, 35, 36, 37, 38, 39, 40, 41, 42, 43] (by decide +kernel) (by decide +kernel)
set_option maxRecDepth 20000 in
theorem gX9_ofPile_X9_grundyOf : GoodIn wsX9_ofPile (wsV RX9 167 RX9 yX9_grundyOf wsX9_grundyOf) := goodIn_app (goodIn_of _ (by decide +kernel)) ggX9_ofPile_X9_grundyOf
set_option maxRecDepth 20000 in
theorem ggX9_ofPile_X9_in : GoodIn wsX9_ofPile wsX9_in := goodIn_r _ [10] (by decide +kernel) (by decide +kernel)
set_option maxRecDepth 20000 in
theorem gX9_ofPile_X9_in : GoodIn wsX9_ofPile (va_wsS RX9 45 yX9_in wsX9_in) := goodIn_app (goodIn_of _ (by decide +kernel)) ggX9_ofPile_X9_in
theorem dX9_ofPile_0 : decode cX9_ofPile 0 = .ok (.aload_n 0, 1) := by decide +kernel
theorem dX9_ofPile_1 : decode cX9_ofPile 1 = .ok (.iconst 0, 1) := by decide +kernel
theorem dX9_ofPile_2 : decode cX9_ofPile 2 = .ok (.putfield 41, 3) := by decide +kernel
theorem dX9_ofPile_5 : decode cX9_ofPile 5 = .ok (.aload_n 0, 1) := by decide +kernel
theorem dX9_ofPile_6 : decode cX9_ofPile 6 = .ok (.iload_n 1, 1) := by decide +kernel
theorem dX9_ofPile_7 : decode cX9_ofPile 7 = .ok (.invokevirtual 143, 3) := by decide +kernel
theorem dX9_ofPile_10 : decode cX9_ofPile 10 = .ok (.ifCond .ne 5, 3) := by decide +kernel
theorem dX9_ofPile_13 : decode cX9_ofPile 13 = .ok (.iconst (-1), 1) := by decide +kernel
theorem dX9_ofPile_14 : decode cX9_ofPile 14 = .ok (.ireturn, 1) := by decide +kernel
theorem dX9_ofPile_15 : decode cX9_ofPile 15 = .ok (.iload_n 2, 1) := by decide +kernel
theorem dX9_ofPile_16 : decode cX9_ofPile 16 = .ok (.iconst 4, 1) := by decide +kernel
theorem dX9_ofPile_17 : decode cX9_ofPile 17 = .ok (.if_icmp .ne 16, 3) := by decide +kernel
theorem dX9_ofPile_20 : decode cX9_ofPile 20 = .ok (.aload_n 0, 1) := by decide +kernel
theorem dX9_ofPile_21 : decode cX9_ofPile 21 = .ok (.aload_n 0, 1) := by decide +kernel
theorem dX9_ofPile_22 : decode cX9_ofPile 22 = .ok (.iload_n 1, 1) := by decide +kernel
theorem dX9_ofPile_23 : decode cX9_ofPile 23 = .ok (.iconst 0, 1) := by decide +kernel
theorem dX9_ofPile_24 : decode cX9_ofPile 24 = .ok (.invokevirtual 64, 3) := by decide +kernel
theorem dX9_ofPile_27 : decode cX9_ofPile 27 = .ok (.invokevirtual 167, 3) := by decide +kernel
theorem dX9_ofPile_30 : decode cX9_ofPile 30 = .ok (.goto 23, 3) := by decide +kernel
theorem dX9_ofPile_33 : decode cX9_ofPile 33 = .ok (.iload_n 2, 1) := by decide +kernel
theorem dX9_ofPile_34 : decode cX9_ofPile 34 = .ok (.iconst 0, 1) := by decide +kernel
theorem dX9_ofPile_35 : decode cX9_ofPile 35 = .ok (.iconst 3, 1) := by decide +kernel
theorem dX9_ofPile_36 : decode cX9_ofPile 36 = .ok (.invokestatic 45, 3) := by decide +kernel
theorem dX9_ofPile_39 : decode cX9_ofPile 39 = .ok (.ifCond .eq 12, 3) := by decide +kernel
theorem dX9_ofPile_42 : decode cX9_ofPile 42 = .ok (.aload_n 0, 1) := by decide +kernel
theorem dX9_ofPile_43 : decode cX9_ofPile 43 = .ok (.iload_n 1, 1) := by decide +kernel
theorem dX9_ofPile_44 : decode cX9_ofPile 44 = .ok (.iload_n 2, 1) := by decide +kernel
theorem dX9_ofPile_45 : decode cX9_ofPile 45 = .ok (.invokevirtual 64, 3) := by decide +kernel
theorem dX9_ofPile_48 : decode cX9_ofPile 48 = .ok (.goto 5, 3) := by decide +kernel
theorem dX9_ofPile_51 : decode cX9_ofPile 51 = .ok (.bipush (-2), 2) := by decide +kernel
theorem dX9_ofPile_53 : decode cX9_ofPile 53 = .ok (.ireturn, 1) := by decide +kernel
set_option maxRecDepth 20000 in
theorem ggX9_inAll_X9_winner : GoodIn wsX9_inAll wsX9_winner := goodIn_r _ [6, 1, 7, 8, 9, 5, 10, 11, 12, 13, 14, 15, 16, 17, 18, 19, 20, 21, 22, 23, 24, 25, 26, 27, 28, 29, 30, 31, 32, 33, 34, 35, 36, 37, 38, 39, 40, 41, 42, 43, 44, 45, 46, 47, 48, 49, 50, 51, 52, 53, 54, 55, 56, 57, 58, 59] (by decide +kernel) (by decide +kernel)
set_option maxRecDepth 20000 in
theorem gX9_inAll_X9_winner : GoodIn wsX9_inAll (wsV RX9 170 RX9 yX9_winner wsX9_winner) := goodIn_app (goodIn_of _ (by decide +kernel)) ggX9_inAll_X9_winner
theorem dX9_inAll_0 : decode cX9_inAll 0 = .ok (.aload_n 0, 1) := by decide +kernel
theorem dX9_inAll_1 : decode cX9_inAll 1 = .ok (.invokevirtual 170, 3) := by decide +kernel
theorem dX9_inAll_4 : decode cX9_inAll 4 = .ok (.istore_n 2, 1) := by decide +kernel
theorem dX9_inAll_5 : decode cX9_inAll 5 = .ok (.aload_n 0, 1) := by decide +kernel
theorem dX9_inAll_6 : decode cX9_inAll 6 = .ok (.getfield 7, 3) := by decide +kernel
theorem dX9_inAll_9 : decode cX9_inAll 9 = .ok (.bipush 9, 2) := by decide +kernel
theorem dX9_inAll_11 : decode cX9_inAll 11 = .ok (.iload_n 1, 1) := by decide +kernel
theorem dX9_inAll_12 : decode cX9_inAll 12 = .ok (.iadd, 1) := by decide +kernel
theorem dX9_inAll_13 : decode cX9_inAll 13 = .ok (.iaload, 1) := by decide +kernel
theorem dX9_inAll_14 : decode cX9_inAll 14 = .ok (.iload_n 2, 1) := by decide +kernel
theorem dX9_inAll_15 : decode cX9_inAll 15 = .ok (.bipush (-6), 2) := by decide +kernel
theorem dX9_inAll_17 : decode cX9_inAll 17 = .ok (.if_icmp .ne 7, 3) := by decide +kernel
theorem dX9_inAll_20 : decode cX9_inAll 20 = .ok (.iconst 0, 1) := by decide +kernel
theorem dX9_inAll_21 : decode cX9_inAll 21 = .ok (.goto 24, 3) := by decide +kernel
theorem dX9_inAll_24 : decode cX9_inAll 24 = .ok (.iload_n 2, 1) := by decide +kernel
theorem dX9_inAll_25 : decode cX9_inAll 25 = .ok (.iload_n 1, 1) := by decide +kernel
theorem dX9_inAll_26 : decode cX9_inAll 26 = .ok (.if_icmp .ne 12, 3) := by decide +kernel
theorem dX9_inAll_29 : decode cX9_inAll 29 = .ok (.aload_n 0, 1) := by decide +kernel
theorem dX9_inAll_30 : decode cX9_inAll 30 = .ok (.getfield 7, 3) := by decide +kernel
theorem dX9_inAll_33 : decode cX9_inAll 33 = .ok (.iconst 1, 1) := by decide +kernel
theorem dX9_inAll_34 : decode cX9_inAll 34 = .ok (.iaload, 1) := by decide +kernel
theorem dX9_inAll_35 : decode cX9_inAll 35 = .ok (.goto 10, 3) := by decide +kernel
theorem dX9_inAll_38 : decode cX9_inAll 38 = .ok (.aload_n 0, 1) := by decide +kernel
theorem dX9_inAll_39 : decode cX9_inAll 39 = .ok (.getfield 7, 3) := by decide +kernel
theorem dX9_inAll_42 : decode cX9_inAll 42 = .ok (.iconst 1, 1) := by decide +kernel
theorem dX9_inAll_43 : decode cX9_inAll 43 = .ok (.iaload, 1) := by decide +kernel
theorem dX9_inAll_44 : decode cX9_inAll 44 = .ok (.ineg, 1) := by decide +kernel
theorem dX9_inAll_45 : decode cX9_inAll 45 = .ok (.iadd, 1) := by decide +kernel
theorem dX9_inAll_46 : decode cX9_inAll 46 = .ok (.ireturn, 1) := by decide +kernel
set_option maxRecDepth 20000 in
theorem ggX9_ofPlayer_X9_in : GoodIn wsX9_ofPlayer wsX9_in := goodIn_r _ [6] (by decide +kernel) (by decide +kernel)
set_option maxRecDepth 20000 in
theorem gX9_ofPlayer_X9_in : GoodIn wsX9_ofPlayer (va_wsS RX9 45 yX9_in wsX9_in) := goodIn_app (goodIn_of _ (by decide +kernel)) ggX9_ofPlayer_X9_in
set_option maxRecDepth 20000 in
theorem ggX9_ofPlayer_X9_inAll : GoodIn wsX9_ofPlayer wsX9_inAll := goodIn_r _ [10, 2, 11, 12, 13, 5, 14, 15, 16, 17, 18, 19, 20, 21, 22, 23, 24, 25, 26, 27, 28, 29, 30, 31, 32, 33, 34, 35, 36, 37, 38, 39, 40, 41, 42, 43, 44, 45, 3, 4, 6, 46, 47, 48, 49, 50, 51, 52, 53, 54, 55, 56, 57, 58, 59, 60, 61, 62, 63, 64] (by decide +kernel) (by decide +kernel)
set_option maxRecDepth 20000 in
theorem gX9_ofPlayer_X9_inAll : GoodIn wsX9_ofPlayer (wsV RX9 173 RX9 yX9_inAll wsX9_inAll) := goodIn_app (goodIn_of _ (by decide +kernel)) ggX9_ofPlayer_X9_inAll
theorem dX9_ofPlayer_0 : decode cX9_ofPlayer 0 = .ok (.aload_n 0, 1) := by decide +kernel
theorem dX9_ofPlayer_1 : decode cX9_ofPlayer 1 = .ok (.iconst 0, 1) := by decide +kernel
theorem dX9_ofPlayer_2 : decode cX9_ofPlayer 2 = .ok (.putfield 41, 3) := by decide +kernel
theorem dX9_ofPlayer_5 : decode cX9_ofPlayer 5 = .ok (.iload_n 1, 1) := by decide +kernel
theorem dX9_ofPlayer_6 : decode cX9_ofPlayer 6 = .ok (.iconst 0, 1) := by decide +kernel
theorem dX9_ofPlayer_7 : decode cX9_ofPlayer 7 = .ok (.iconst 1, 1) := by decide +kernel
theorem dX9_ofPlayer_8 : decode cX9_ofPlayer 8 = .ok (.invokestatic 45, 3) := by decide +kernel
theorem dX9_ofPlayer_11 : decode cX9_ofPlayer 11 = .ok (.ifCond .ne 5, 3) := by decide +kernel
theorem dX9_ofPlayer_14 : decode cX9_ofPlayer 14 = .ok (.iconst (-1), 1) := by decide +kernel
theorem dX9_ofPlayer_15 : decode cX9_ofPlayer 15 = .ok (.ireturn, 1) := by decide +kernel
theorem dX9_ofPlayer_16 : decode cX9_ofPlayer 16 = .ok (.iload_n 2, 1) := by decide +kernel
theorem dX9_ofPlayer_17 : decode cX9_ofPlayer 17 = .ok (.tableswitch 56 0 2 #[27, 37, 47], 27) := by decide +kernel
theorem dX9_ofPlayer_44 : decode cX9_ofPlayer 44 = .ok (.aload_n 0, 1) := by decide +kernel
theorem dX9_ofPlayer_45 : decode cX9_ofPlayer 45 = .ok (.getfield 7, 3) := by decide +kernel
theorem dX9_ofPlayer_48 : decode cX9_ofPlayer 48 = .ok (.bipush 9, 2) := by decide +kernel
theorem dX9_ofPlayer_50 : decode cX9_ofPlayer 50 = .ok (.iload_n 1, 1) := by decide +kernel
theorem dX9_ofPlayer_51 : decode cX9_ofPlayer 51 = .ok (.iadd, 1) := by decide +kernel
theorem dX9_ofPlayer_52 : decode cX9_ofPlayer 52 = .ok (.iaload, 1) := by decide +kernel
theorem dX9_ofPlayer_53 : decode cX9_ofPlayer 53 = .ok (.ireturn, 1) := by decide +kernel
theorem dX9_ofPlayer_54 : decode cX9_ofPlayer 54 = .ok (.aload_n 0, 1) := by decide +kernel
theorem dX9_ofPlayer_55 : decode cX9_ofPlayer 55 = .ok (.getfield 7, 3) := by decide +kernel
theorem dX9_ofPlayer_58 : decode cX9_ofPlayer 58 = .ok (.bipush 7, 2) := by decide +kernel
theorem dX9_ofPlayer_60 : decode cX9_ofPlayer 60 = .ok (.iload_n 1, 1) := by decide +kernel
theorem dX9_ofPlayer_61 : decode cX9_ofPlayer 61 = .ok (.iadd, 1) := by decide +kernel
theorem dX9_ofPlayer_62 : decode cX9_ofPlayer 62 = .ok (.iaload, 1) := by decide +kernel
theorem dX9_ofPlayer_63 : decode cX9_ofPlayer 63 = .ok (.ireturn, 1) := by decide +kernel
theorem dX9_ofPlayer_64 : decode cX9_ofPlayer 64 = .ok (.aload_n 0, 1) := by decide +kernel
theorem dX9_ofPlayer_65 : decode cX9_ofPlayer 65 = .ok (.iload_n 1, 1) := by decide +kernel
theorem dX9_ofPlayer_66 : decode cX9_ofPlayer 66 = .ok (.invokevirtual 173, 3) := by decide +kernel
theorem dX9_ofPlayer_69 : decode cX9_ofPlayer 69 = .ok (.bipush 100, 2) := by decide +kernel
theorem dX9_ofPlayer_71 : decode cX9_ofPlayer 71 = .ok (.iadd, 1) := by decide +kernel
theorem dX9_ofPlayer_72 : decode cX9_ofPlayer 72 = .ok (.ireturn, 1) := by decide +kernel
theorem dX9_ofPlayer_73 : decode cX9_ofPlayer 73 = .ok (.bipush (-2), 2) := by decide +kernel
theorem dX9_ofPlayer_75 : decode cX9_ofPlayer 75 = .ok (.ireturn, 1) := by decide +kernel
set_option maxRecDepth 20000 in
theorem ggX9_count_X9_tokens : GoodIn wsX9_count wsX9_tokens := goodIn_r _ [9, 2, 10, 11, 12, 8, 13, 51, 52, 53, 54, 55, 56, 57, 58, 59, 60, 61, 62, 63, 64, 65, 66] (by decide +kernel) (by decide +kernel)
set_option maxRecDepth 20000 in
theorem gX9_count_X9_tokens : GoodIn wsX9_count (wsV RX9 140 RX9 yX9_tokens wsX9_tokens) := goodIn_app (goodIn_of _ (by decide +kernel)) ggX9_count_X9_tokens
set_option maxRecDepth 20000 in
theorem ggX9_count_X9_isOver : GoodIn wsX9_count wsX9_isOver := goodIn_r _ [17, 18, 19, 20, 8, 21, 2, 22, 23, 24, 25, 26, 27, 28, 10, 11, 12, 13, 29, 30, 31, 32, 33, 34, 35, 36, 37, 38, 39, 40, 41, 42, 43, 44, 45, 46, 51, 52, 53, 54, 55, 56, 57, 58, 59, 60, 61, 62, 63, 64, 65, 66] (by decide +kernel) (by decide +kernel)
set_option maxRecDepth 20000 in
theorem gX9_count_X9_isOver : GoodIn wsX9_count (wsV RX9 112 RX9 yX9_isOver wsX9_isOver) := goodIn_app (goodIn_of _ (by decide +kernel)) ggX9_count_X9_isOver
set_option maxRecDepth 20000 in
theorem ggX9_count_X9_winner : GoodIn wsX9_count wsX9_winner := goodIn_r _ [50, 2, 14, 15, 16, 8, 17, 18, 19, 20, 21, 22, 23, 24, 25, 26, 27, 28, 10, 11, 12, 13, 29, 30, 31, 32, 33, 34, 35, 36, 37, 38, 39, 40, 41, 42, 43, 44, 45, 46, 51, 52, 53, 54, 55, 56, 57, 58, 59, 60, 61, 62, 63, 64, 65, 66] (by decide +kernel) (by decide +kernel)
set_option maxRecDepth 20000 in
theorem gX9_count_X9_winner : GoodIn wsX9_count (wsV RX9 170 RX9 yX9_winner wsX9_winner) := goodIn_app (goodIn_of _ (by decide +kernel)) ggX9_count_X9_winner
theorem dX9_count_0 : decode cX9_count 0 = .ok (.aload_n 0, 1) := by decide +kernel
theorem dX9_count_1 : decode cX9_count 1 = .ok (.iconst 0, 1) := by decide +kernel
theorem dX9_count_2 : decode cX9_count 2 = .ok (.putfield 41, 3) := by decide +kernel
theorem dX9_count_5 : decode cX9_count 5 = .ok (.iload_n 1, 1) := by decide +kernel
theorem dX9_count_6 : decode cX9_count 6 = .ok (.tableswitch 130 0 10 #[58, 65, 70, 77, 90, 95, 103, 110, 110, 120, 125], 58) := by decide +kernel
theorem dX9_count_64 : decode cX9_count 64 = .ok (.aload_n 0, 1) := by decide +kernel
theorem dX9_count_65 : decode cX9_count 65 = .ok (.getfield 7, 3) := by decide +kernel
theorem dX9_count_68 : decode cX9_count 68 = .ok (.iconst 2, 1) := by decide +kernel
theorem dX9_count_69 : decode cX9_count 69 = .ok (.iaload, 1) := by decide +kernel
theorem dX9_count_70 : decode cX9_count 70 = .ok (.ireturn, 1) := by decide +kernel
theorem dX9_count_71 : decode cX9_count 71 = .ok (.aload_n 0, 1) := by decide +kernel
theorem dX9_count_72 : decode cX9_count 72 = .ok (.invokevirtual 140, 3) := by decide +kernel
theorem dX9_count_75 : decode cX9_count 75 = .ok (.ireturn, 1) := by decide +kernel
theorem dX9_count_76 : decode cX9_count 76 = .ok (.aload_n 0, 1) := by decide +kernel
theorem dX9_count_77 : decode cX9_count 77 = .ok (.getfield 7, 3) := by decide +kernel
theorem dX9_count_80 : decode cX9_count 80 = .ok (.iconst 3, 1) := by decide +kernel
theorem dX9_count_81 : decode cX9_count 81 = .ok (.iaload, 1) := by decide +kernel
theorem dX9_count_82 : decode cX9_count 82 = .ok (.ireturn, 1) := by decide +kernel
theorem dX9_count_83 : decode cX9_count 83 = .ok (.aload_n 0, 1) := by decide +kernel
theorem dX9_count_84 : decode cX9_count 84 = .ok (.invokevirtual 112, 3) := by decide +kernel
theorem dX9_count_87 : decode cX9_count 87 = .ok (.ifCond .eq 7, 3) := by decide +kernel
theorem dX9_count_90 : decode cX9_count 90 = .ok (.iconst 1, 1) := by decide +kernel
theorem dX9_count_91 : decode cX9_count 91 = .ok (.goto 4, 3) := by decide +kernel
theorem dX9_count_94 : decode cX9_count 94 = .ok (.iconst 0, 1) := by decide +kernel
theorem dX9_count_95 : decode cX9_count 95 = .ok (.ireturn, 1) := by decide +kernel
theorem dX9_count_96 : decode cX9_count 96 = .ok (.aload_n 0, 1) := by decide +kernel
theorem dX9_count_97 : decode cX9_count 97 = .ok (.invokevirtual 170, 3) := by decide +kernel
theorem dX9_count_100 : decode cX9_count 100 = .ok (.ireturn, 1) := by decide +kernel
theorem dX9_count_101 : decode cX9_count 101 = .ok (.aload_n 0, 1) := by decide +kernel
theorem dX9_count_102 : decode cX9_count 102 = .ok (.getfield 7, 3) := by decide +kernel
theorem dX9_count_105 : decode cX9_count 105 = .ok (.bipush 6, 2) := by decide +kernel
theorem dX9_count_107 : decode cX9_count 107 = .ok (.iaload, 1) := by decide +kernel
theorem dX9_count_108 : decode cX9_count 108 = .ok (.ireturn, 1) := by decide +kernel
theorem dX9_count_109 : decode cX9_count 109 = .ok (.aload_n 0, 1) := by decide +kernel
theorem dX9_count_110 : decode cX9_count 110 = .ok (.getfield 7, 3) := by decide +kernel
theorem dX9_count_113 : decode cX9_count 113 = .ok (.iconst 4, 1) := by decide +kernel
theorem dX9_count_114 : decode cX9_count 114 = .ok (.iaload, 1) := by decide +kernel
theorem dX9_count_115 : decode cX9_count 115 = .ok (.ireturn, 1) := by decide +kernel
theorem dX9_count_116 : decode cX9_count 116 = .ok (.aload_n 0, 1) := by decide +kernel
theorem dX9_count_117 : decode cX9_count 117 = .ok (.getfield 7, 3) := by decide +kernel
theorem dX9_count_120 : decode cX9_count 120 = .ok (.iload_n 1, 1) := by decide +kernel
theorem dX9_count_121 : decode cX9_count 121 = .ok (.bipush 7, 2) := by decide +kernel
theorem dX9_count_123 : decode cX9_count 123 = .ok (.isub, 1) := by decide +kernel
theorem dX9_count_124 : decode cX9_count 124 = .ok (.iaload, 1) := by decide +kernel
theorem dX9_count_125 : decode cX9_count 125 = .ok (.ireturn, 1) := by decide +kernel
theorem dX9_count_126 : decode cX9_count 126 = .ok (.aload_n 0, 1) := by decide +kernel
theorem dX9_count_127 : decode cX9_count 127 = .ok (.getfield 176, 3) := by decide +kernel
theorem dX9_count_130 : decode cX9_count 130 = .ok (.ireturn, 1) := by decide +kernel
theorem dX9_count_131 : decode cX9_count 131 = .ok (.aload_n 0, 1) := by decide +kernel
theorem dX9_count_132 : decode cX9_count 132 = .ok (.getfield 49, 3) := by decide +kernel
theorem dX9_count_135 : decode cX9_count 135 = .ok (.ireturn, 1) := by decide +kernel
theorem dX9_count_136 : decode cX9_count 136 = .ok (.bipush (-2), 2) := by decide +kernel
theorem dX9_count_138 : decode cX9_count 138 = .ok (.ireturn, 1) := by decide +kernel
set_option maxRecDepth 20000 in
theorem ggX9_moves_X9_movesNow : GoodIn wsX9_moves wsX9_movesNow := goodIn_r _ [6, 7, 8, 9, 10, 5, 11, 12, 13, 14, 15, 16, 17, 18, 19, 20, 21, 22, 23, 24, 25, 26, 27, 28, 29, 30, 31, 32, 33, 34, 35, 36, 37, 38, 39, 40, 41, 42, 43, 44, 45, 46, 47, 48, 49, 50, 51, 52] (by decide +kernel) (by decide +kernel)
set_option maxRecDepth 20000 in
theorem gX9_moves_X9_movesNow : GoodIn wsX9_moves (wsV RX9 109 RX9 yX9_movesNow wsX9_movesNow) := goodIn_app (goodIn_of _ (by decide +kernel)) ggX9_moves_X9_movesNow
theorem dX9_moves_0 : decode cX9_moves 0 = .ok (.aload_n 0, 1) := by decide +kernel
theorem dX9_moves_1 : decode cX9_moves 1 = .ok (.iconst 0, 1) := by decide +kernel
theorem dX9_moves_2 : decode cX9_moves 2 = .ok (.putfield 41, 3) := by decide +kernel
theorem dX9_moves_5 : decode cX9_moves 5 = .ok (.aload_n 0, 1) := by decide +kernel
theorem dX9_moves_6 : decode cX9_moves 6 = .ok (.invokevirtual 109, 3) := by decide +kernel
theorem dX9_moves_9 : decode cX9_moves 9 = .ok (.ireturn, 1) := by decide +kernel
set_option maxRecDepth 20000 in
theorem ggX9_won_X9_isOver : GoodIn wsX9_won wsX9_isOver := goodIn_r _ [8, 9, 10, 11, 7, 12, 3, 13, 14, 15, 16, 17, 18, 19, 20, 21, 22, 23, 24, 25, 26, 27, 28, 29, 30, 31, 32, 33, 34, 35, 36, 37, 38, 39, 40, 41, 85, 86, 87, 88, 89, 90, 91, 92, 93, 94, 95, 96, 97, 98, 99, 100] (by decide +kernel) (by decide +kernel)
set_option maxRecDepth 20000 in
theorem gX9_won_X9_isOver : GoodIn wsX9_won (wsV RX9 112 RX9 yX9_isOver wsX9_isOver) := goodIn_app (goodIn_of _ (by decide +kernel)) ggX9_won_X9_isOver
set_option maxRecDepth 20000 in
theorem ggX9_won_X9_reckonsAll : GoodIn wsX9_won wsX9_reckonsAll := goodIn_r _ [45, 46, 47, 48, 7, 49, 39, 40, 41, 17, 18, 19, 20, 21, 22, 23, 3, 50, 51, 52, 53, 36, 37, 38, 54, 55, 56, 57, 58, 2, 28, 29, 30, 31, 32, 33, 34, 35, 59, 60, 61, 62, 63, 64, 65, 66, 67, 68, 69, 70, 71, 72, 73, 74, 75, 76, 77, 78, 79, 80, 85, 86, 87, 88, 89, 90, 91, 92, 93, 94, 95, 96, 97, 98, 99, 100] (by decide +kernel) (by decide +kernel)
set_option maxRecDepth 20000 in
theorem gX9_won_X9_reckonsAll : GoodIn wsX9_won (wsV RX9 155 RX9 yX9_reckonsAll wsX9_reckonsAll) := goodIn_app (goodIn_of _ (by decide +kernel)) ggX9_won_X9_reckonsAll
set_option maxRecDepth 20000 in
theorem ggX9_won_X9_code : GoodIn wsX9_won wsX9_code := goodIn_r _ [16, 17, 18, 7, 19, 20, 21, 22, 23, 3, 85, 86, 87, 88, 89, 90, 91, 92, 93, 94, 95, 96, 97, 98, 99, 100] (by decide +kernel) (by decide +kernel)
set_option maxRecDepth 20000 in
theorem gX9_won_X9_code : GoodIn wsX9_won (wsV RX9 102 RX9 yX9_code wsX9_code) := goodIn_app (goodIn_of _ (by decide +kernel)) ggX9_won_X9_code
set_option maxRecDepth 20000 in
theorem ggX9_won_X9_own : GoodIn wsX9_won wsX9_own := goodIn_r _ [27, 3, 85, 86, 87, 88, 89, 90, 91, 92, 93, 94, 95, 96, 97, 98, 99, 100] (by decide +kernel) (by decide +kernel)
set_option maxRecDepth 20000 in
theorem gX9_won_X9_own : GoodIn wsX9_won (wsV RX9 106 RX9 yX9_own wsX9_own) := goodIn_app (goodIn_of _ (by decide +kernel)) ggX9_won_X9_own
set_option maxRecDepth 20000 in
theorem ggX9_won_X9_others : GoodIn wsX9_won wsX9_others := goodIn_r _ [84, 3, 85, 86, 87, 88, 89, 90, 91, 92, 93, 94, 95, 96, 97, 98, 99, 100] (by decide +kernel) (by decide +kernel)
set_option maxRecDepth 20000 in
theorem gX9_won_X9_others : GoodIn wsX9_won (wsV RX9 120 RX9 yX9_others wsX9_others) := goodIn_app (goodIn_of _ (by decide +kernel)) ggX9_won_X9_others
set_option maxRecDepth 20000 in
theorem ggX9_won_X9_game : GoodIn wsX9_won wsX9_game := goodIn_r _ [76] (by decide +kernel) (by decide +kernel)
set_option maxRecDepth 20000 in
theorem gX9_won_X9_game : GoodIn wsX9_won (va_wsS RX9 67 yX9_game wsX9_game) := goodIn_app (goodIn_of _ (by decide +kernel)) ggX9_won_X9_game
theorem dX9_won_0 : decode cX9_won 0 = .ok (.aload_n 0, 1) := by decide +kernel
theorem dX9_won_1 : decode cX9_won 1 = .ok (.iconst 0, 1) := by decide +kernel
theorem dX9_won_2 : decode cX9_won 2 = .ok (.putfield 41, 3) := by decide +kernel
theorem dX9_won_5 : decode cX9_won 5 = .ok (.aload_n 0, 1) := by decide +kernel
theorem dX9_won_6 : decode cX9_won 6 = .ok (.invokevirtual 112, 3) := by decide +kernel
theorem dX9_won_9 : decode cX9_won 9 = .ok (.ifCond .eq 6, 3) := by decide +kernel
theorem dX9_won_12 : decode cX9_won 12 = .ok (.bipush (-5), 2) := by decide +kernel
theorem dX9_won_14 : decode cX9_won 14 = .ok (.ireturn, 1) := by decide +kernel
theorem dX9_won_15 : decode cX9_won 15 = .ok (.aload_n 0, 1) := by decide +kernel
theorem dX9_won_16 : decode cX9_won 16 = .ok (.invokevirtual 155, 3) := by decide +kernel
theorem dX9_won_19 : decode cX9_won 19 = .ok (.aload_n 0, 1) := by decide +kernel
theorem dX9_won_20 : decode cX9_won 20 = .ok (.getfield 32, 3) := by decide +kernel
theorem dX9_won_23 : decode cX9_won 23 = .ok (.aload_n 0, 1) := by decide +kernel
theorem dX9_won_24 : decode cX9_won 24 = .ok (.invokevirtual 102, 3) := by decide +kernel
theorem dX9_won_27 : decode cX9_won 27 = .ok (.aload_n 0, 1) := by decide +kernel
theorem dX9_won_28 : decode cX9_won 28 = .ok (.invokevirtual 106, 3) := by decide +kernel
theorem dX9_won_31 : decode cX9_won 31 = .ok (.aload_n 0, 1) := by decide +kernel
theorem dX9_won_32 : decode cX9_won 32 = .ok (.invokevirtual 120, 3) := by decide +kernel
theorem dX9_won_35 : decode cX9_won 35 = .ok (.aload_n 0, 1) := by decide +kernel
theorem dX9_won_36 : decode cX9_won 36 = .ok (.getfield 7, 3) := by decide +kernel
theorem dX9_won_39 : decode cX9_won 39 = .ok (.iconst 4, 1) := by decide +kernel
theorem dX9_won_40 : decode cX9_won 40 = .ok (.iaload, 1) := by decide +kernel
theorem dX9_won_41 : decode cX9_won 41 = .ok (.invokestatic 67, 3) := by decide +kernel
theorem dX9_won_44 : decode cX9_won 44 = .ok (.baload, 1) := by decide +kernel
theorem dX9_won_45 : decode cX9_won 45 = .ok (.ifCond .eq 7, 3) := by decide +kernel
theorem dX9_won_48 : decode cX9_won 48 = .ok (.iconst 1, 1) := by decide +kernel
theorem dX9_won_49 : decode cX9_won 49 = .ok (.goto 4, 3) := by decide +kernel
theorem dX9_won_52 : decode cX9_won 52 = .ok (.iconst 0, 1) := by decide +kernel
theorem dX9_won_53 : decode cX9_won 53 = .ok (.ireturn, 1) := by decide +kernel
set_option maxRecDepth 20000 in
theorem ggX9_winning_X9_movesNow : GoodIn wsX9_winning wsX9_movesNow := goodIn_r _ [6, 7, 8, 9, 10, 5, 11, 12, 13, 14, 15, 16, 17, 18, 19, 20, 21, 22, 23, 24, 25, 26, 27, 28, 29, 30, 31, 32, 33, 34, 35, 36, 81, 82, 83, 84, 85, 86, 87, 88, 89, 90, 91, 92, 93, 94, 95, 96] (by decide +kernel) (by decide +kernel)
set_option maxRecDepth 20000 in
theorem gX9_winning_X9_movesNow : GoodIn wsX9_winning (wsV RX9 109 RX9 yX9_movesNow wsX9_movesNow) := goodIn_app (goodIn_of _ (by decide +kernel)) ggX9_winning_X9_movesNow
set_option maxRecDepth 20000 in
theorem ggX9_winning_X9_reckonsAll : GoodIn wsX9_winning wsX9_reckonsAll := goodIn_r _ [40, 41, 42, 43, 5, 44, 34, 35, 36, 12, 13, 14, 15, 16, 17, 18, 7, 45, 46, 47, 48, 31, 32, 33, 49, 50, 51, 52, 53, 54, 23, 24, 25, 26, 27, 28, 29, 30, 55, 56, 57, 58, 59, 60, 61, 62, 63, 64, 65, 66, 67, 68, 69, 70, 71, 72, 73, 74, 75, 76, 81, 82, 83, 84, 85, 86, 87, 88, 89, 90, 91, 92, 93, 94, 95, 96] (by decide +kernel) (by decide +kernel)
set_option maxRecDepth 20000 in
theorem gX9_winning_X9_reckonsAll : GoodIn wsX9_winning (wsV RX9 155 RX9 yX9_reckonsAll wsX9_reckonsAll) := goodIn_app (goodIn_of _ (by decide +kernel)) ggX9_winning_X9_reckonsAll
set_option maxRecDepth 20000 in
theorem ggX9_winning_X9_code : GoodIn wsX9_winning wsX9_code := goodIn_r _ [11, 12, 13, 5, 14, 15, 16, 17, 18, 7, 81, 82, 83, 84, 85, 86, 87, 88, 89, 90, 91, 92, 93, 94, 95, 96] (by decide +kernel) (by decide +kernel)
set_option maxRecDepth 20000 in
theorem gX9_winning_X9_code : GoodIn wsX9_winning (wsV RX9 102 RX9 yX9_code wsX9_code) := goodIn_app (goodIn_of _ (by decide +kernel)) ggX9_winning_X9_code
set_option maxRecDepth 20000 in
theorem ggX9_winning_X9_own : GoodIn wsX9_winning wsX9_own := goodIn_r _ [22, 7, 81, 82, 83, 84, 85, 86, 87, 88, 89, 90, 91, 92, 93, 94, 95, 96] (by decide +kernel) (by decide +kernel)
set_option maxRecDepth 20000 in
theorem gX9_winning_X9_own : GoodIn wsX9_winning (wsV RX9 106 RX9 yX9_own wsX9_own) := goodIn_app (goodIn_of _ (by decide +kernel)) ggX9_winning_X9_own
set_option maxRecDepth 20000 in
theorem ggX9_winning_X9_others : GoodIn wsX9_winning wsX9_others := goodIn_r _ [80, 7, 81, 82, 83, 84, 85, 86, 87, 88, 89, 90, 91, 92, 93, 94, 95, 96] (by decide +kernel) (by decide +kernel)
set_option maxRecDepth 20000 in
theorem gX9_winning_X9_others : GoodIn wsX9_winning (wsV RX9 120 RX9 yX9_others wsX9_others) := goodIn_app (goodIn_of _ (by decide +kernel)) ggX9_winning_X9_others
set_option maxRecDepth 20000 in
theorem ggX9_winning_X9_wins : GoodIn wsX9_winning wsX9_wins := goodIn_r _ [76, 54, 63, 64, 65, 5, 66, 15, 16, 17, 18, 7, 34, 35, 36, 12, 13, 14, 67, 68, 69, 70, 71, 72, 81, 82, 83, 84, 85, 86, 87, 88, 89, 90, 91, 92, 93, 94, 95, 96] (by decide +kernel) (by decide +kernel)
set_option maxRecDepth 20000 in
theorem gX9_winning_X9_wins : GoodIn wsX9_winning (wsV RX9 88 RX9 yX9_wins wsX9_wins) := goodIn_app (goodIn_of _ (by decide +kernel)) ggX9_winning_X9_wins
theorem dX9_winning_0 : decode cX9_winning 0 = .ok (.aload_n 0, 1) := by decide +kernel
theorem dX9_winning_1 : decode cX9_winning 1 = .ok (.iconst 0, 1) := by decide +kernel
theorem dX9_winning_2 : decode cX9_winning 2 = .ok (.putfield 41, 3) := by decide +kernel
theorem dX9_winning_5 : decode cX9_winning 5 = .ok (.aload_n 0, 1) := by decide +kernel
theorem dX9_winning_6 : decode cX9_winning 6 = .ok (.invokevirtual 109, 3) := by decide +kernel
theorem dX9_winning_9 : decode cX9_winning 9 = .ok (.istore_n 1, 1) := by decide +kernel
theorem dX9_winning_10 : decode cX9_winning 10 = .ok (.iload_n 1, 1) := by decide +kernel
theorem dX9_winning_11 : decode cX9_winning 11 = .ok (.ifCond .ne 6, 3) := by decide +kernel
theorem dX9_winning_14 : decode cX9_winning 14 = .ok (.bipush (-5), 2) := by decide +kernel
theorem dX9_winning_16 : decode cX9_winning 16 = .ok (.ireturn, 1) := by decide +kernel
theorem dX9_winning_17 : decode cX9_winning 17 = .ok (.aload_n 0, 1) := by decide +kernel
theorem dX9_winning_18 : decode cX9_winning 18 = .ok (.invokevirtual 155, 3) := by decide +kernel
theorem dX9_winning_21 : decode cX9_winning 21 = .ok (.iconst 0, 1) := by decide +kernel
theorem dX9_winning_22 : decode cX9_winning 22 = .ok (.istore_n 2, 1) := by decide +kernel
theorem dX9_winning_23 : decode cX9_winning 23 = .ok (.iconst 0, 1) := by decide +kernel
theorem dX9_winning_24 : decode cX9_winning 24 = .ok (.istore_n 3, 1) := by decide +kernel
theorem dX9_winning_25 : decode cX9_winning 25 = .ok (.iload_n 3, 1) := by decide +kernel
theorem dX9_winning_26 : decode cX9_winning 26 = .ok (.bipush 21, 2) := by decide +kernel
theorem dX9_winning_28 : decode cX9_winning 28 = .ok (.if_icmp .ge 60, 3) := by decide +kernel
theorem dX9_winning_31 : decode cX9_winning 31 = .ok (.iload_n 1, 1) := by decide +kernel
theorem dX9_winning_32 : decode cX9_winning 32 = .ok (.iload_n 3, 1) := by decide +kernel
theorem dX9_winning_33 : decode cX9_winning 33 = .ok (.ishr, 1) := by decide +kernel
theorem dX9_winning_34 : decode cX9_winning 34 = .ok (.iconst 1, 1) := by decide +kernel
theorem dX9_winning_35 : decode cX9_winning 35 = .ok (.iand, 1) := by decide +kernel
theorem dX9_winning_36 : decode cX9_winning 36 = .ok (.iconst 1, 1) := by decide +kernel
theorem dX9_winning_37 : decode cX9_winning 37 = .ok (.if_icmp .ne 27, 3) := by decide +kernel
theorem dX9_winning_40 : decode cX9_winning 40 = .ok (.aload_n 0, 1) := by decide +kernel
theorem dX9_winning_41 : decode cX9_winning 41 = .ok (.iload_n 3, 1) := by decide +kernel
theorem dX9_winning_42 : decode cX9_winning 42 = .ok (.aload_n 0, 1) := by decide +kernel
theorem dX9_winning_43 : decode cX9_winning 43 = .ok (.invokevirtual 102, 3) := by decide +kernel
theorem dX9_winning_46 : decode cX9_winning 46 = .ok (.aload_n 0, 1) := by decide +kernel
theorem dX9_winning_47 : decode cX9_winning 47 = .ok (.invokevirtual 106, 3) := by decide +kernel
theorem dX9_winning_50 : decode cX9_winning 50 = .ok (.aload_n 0, 1) := by decide +kernel
theorem dX9_winning_51 : decode cX9_winning 51 = .ok (.invokevirtual 120, 3) := by decide +kernel
theorem dX9_winning_54 : decode cX9_winning 54 = .ok (.invokevirtual 88, 3) := by decide +kernel
theorem dX9_winning_57 : decode cX9_winning 57 = .ok (.ifCond .eq 7, 3) := by decide +kernel
theorem dX9_winning_60 : decode cX9_winning 60 = .ok (.iconst 1, 1) := by decide +kernel
theorem dX9_winning_61 : decode cX9_winning 61 = .ok (.goto 4, 3) := by decide +kernel
theorem dX9_winning_64 : decode cX9_winning 64 = .ok (.iconst 0, 1) := by decide +kernel
theorem dX9_winning_65 : decode cX9_winning 65 = .ok (.istore 4, 2) := by decide +kernel
theorem dX9_winning_67 : decode cX9_winning 67 = .ok (.iload_n 2, 1) := by decide +kernel
theorem dX9_winning_68 : decode cX9_winning 68 = .ok (.iload 4, 2) := by decide +kernel
theorem dX9_winning_70 : decode cX9_winning 70 = .ok (.ifCond .eq 9, 3) := by decide +kernel
theorem dX9_winning_73 : decode cX9_winning 73 = .ok (.iconst 1, 1) := by decide +kernel
theorem dX9_winning_74 : decode cX9_winning 74 = .ok (.iload_n 3, 1) := by decide +kernel
theorem dX9_winning_75 : decode cX9_winning 75 = .ok (.ishl, 1) := by decide +kernel
theorem dX9_winning_76 : decode cX9_winning 76 = .ok (.goto 4, 3) := by decide +kernel
theorem dX9_winning_79 : decode cX9_winning 79 = .ok (.iconst 0, 1) := by decide +kernel
theorem dX9_winning_80 : decode cX9_winning 80 = .ok (.ior, 1) := by decide +kernel
theorem dX9_winning_81 : decode cX9_winning 81 = .ok (.istore_n 2, 1) := by decide +kernel
theorem dX9_winning_82 : decode cX9_winning 82 = .ok (.iinc 3 1, 3) := by decide +kernel
theorem dX9_winning_85 : decode cX9_winning 85 = .ok (.goto (-60), 3) := by decide +kernel
theorem dX9_winning_88 : decode cX9_winning 88 = .ok (.iload_n 2, 1) := by decide +kernel
theorem dX9_winning_89 : decode cX9_winning 89 = .ok (.ireturn, 1) := by decide +kernel
set_option maxRecDepth 20000 in
theorem ggX9_value_X9_isOver : GoodIn wsX9_value wsX9_isOver := goodIn_r _ [8, 9, 10, 11, 7, 12, 3, 13, 14, 15, 16, 17, 18, 19, 20, 21, 22, 23, 24, 25, 26, 27, 28, 29, 30, 31, 32, 33, 34, 35, 36, 37, 38, 39, 40, 41, 85, 86, 87, 88, 89, 90, 91, 92, 93, 94, 95, 96, 97, 98, 99, 100] (by decide +kernel) (by decide +kernel)
set_option maxRecDepth 20000 in
theorem gX9_value_X9_isOver : GoodIn wsX9_value (wsV RX9 112 RX9 yX9_isOver wsX9_isOver) := goodIn_app (goodIn_of _ (by decide +kernel)) ggX9_value_X9_isOver
set_option maxRecDepth 20000 in
theorem ggX9_value_X9_reckonsAll : GoodIn wsX9_value wsX9_reckonsAll := goodIn_r _ [45, 46, 47, 48, 7, 49, 39, 40, 41, 17, 18, 19, 20, 21, 22, 23, 3, 50, 51, 52, 53, 36, 37, 38, 54, 55, 56, 57, 2, 58, 28, 29, 30, 31, 32, 33, 34, 35, 59, 60, 61, 62, 63, 64, 65, 66, 67, 68, 69, 70, 71, 72, 73, 74, 75, 76, 77, 78, 79, 80, 85, 86, 87, 88, 89, 90, 91, 92, 93, 94, 95, 96, 97, 98, 99, 100] (by decide +kernel) (by decide +kernel)
set_option maxRecDepth 20000 in
theorem gX9_value_X9_reckonsAll : GoodIn wsX9_value (wsV RX9 155 RX9 yX9_reckonsAll wsX9_reckonsAll) := goodIn_app (goodIn_of _ (by decide +kernel)) ggX9_value_X9_reckonsAll
set_option maxRecDepth 20000 in
theorem ggX9_value_X9_code : GoodIn wsX9_value wsX9_code := goodIn_r _ [16, 17, 18, 7, 19, 20, 21, 22, 23, 3, 85, 86, 87, 88, 89, 90, 91, 92, 93, 94, 95, 96, 97, 98, 99, 100] (by decide +kernel) (by decide +kernel)
set_option maxRecDepth 20000 in
theorem gX9_value_X9_code : GoodIn wsX9_value (wsV RX9 102 RX9 yX9_code wsX9_code) := goodIn_app (goodIn_of _ (by decide +kernel)) ggX9_value_X9_code
set_option maxRecDepth 20000 in
theorem ggX9_value_X9_own : GoodIn wsX9_value wsX9_own := goodIn_r _ [27, 3, 85, 86, 87, 88, 89, 90, 91, 92, 93, 94, 95, 96, 97, 98, 99, 100] (by decide +kernel) (by decide +kernel)
set_option maxRecDepth 20000 in
theorem gX9_value_X9_own : GoodIn wsX9_value (wsV RX9 106 RX9 yX9_own wsX9_own) := goodIn_app (goodIn_of _ (by decide +kernel)) ggX9_value_X9_own
set_option maxRecDepth 20000 in
theorem ggX9_value_X9_others : GoodIn wsX9_value wsX9_others := goodIn_r _ [84, 3, 85, 86, 87, 88, 89, 90, 91, 92, 93, 94, 95, 96, 97, 98, 99, 100] (by decide +kernel) (by decide +kernel)
set_option maxRecDepth 20000 in
theorem gX9_value_X9_others : GoodIn wsX9_value (wsV RX9 120 RX9 yX9_others wsX9_others) := goodIn_app (goodIn_of _ (by decide +kernel)) ggX9_value_X9_others
set_option maxRecDepth 20000 in
theorem ggX9_value_X9_game : GoodIn wsX9_value wsX9_game := goodIn_r _ [76] (by decide +kernel) (by decide +kernel)
set_option maxRecDepth 20000 in
theorem gX9_value_X9_game : GoodIn wsX9_value (va_wsS RX9 67 yX9_game wsX9_game) := goodIn_app (goodIn_of _ (by decide +kernel)) ggX9_value_X9_game
theorem dX9_value_0 : decode cX9_value 0 = .ok (.aload_n 0, 1) := by decide +kernel
theorem dX9_value_1 : decode cX9_value 1 = .ok (.iconst 0, 1) := by decide +kernel
theorem dX9_value_2 : decode cX9_value 2 = .ok (.putfield 41, 3) := by decide +kernel
theorem dX9_value_5 : decode cX9_value 5 = .ok (.aload_n 0, 1) := by decide +kernel
theorem dX9_value_6 : decode cX9_value 6 = .ok (.invokevirtual 112, 3) := by decide +kernel
theorem dX9_value_9 : decode cX9_value 9 = .ok (.ifCond .eq 6, 3) := by decide +kernel
theorem dX9_value_12 : decode cX9_value 12 = .ok (.bipush (-5), 2) := by decide +kernel
theorem dX9_value_14 : decode cX9_value 14 = .ok (.ireturn, 1) := by decide +kernel
theorem dX9_value_15 : decode cX9_value 15 = .ok (.aload_n 0, 1) := by decide +kernel
theorem dX9_value_16 : decode cX9_value 16 = .ok (.invokevirtual 155, 3) := by decide +kernel
theorem dX9_value_19 : decode cX9_value 19 = .ok (.aload_n 0, 1) := by decide +kernel
theorem dX9_value_20 : decode cX9_value 20 = .ok (.getfield 29, 3) := by decide +kernel
theorem dX9_value_23 : decode cX9_value 23 = .ok (.aload_n 0, 1) := by decide +kernel
theorem dX9_value_24 : decode cX9_value 24 = .ok (.invokevirtual 102, 3) := by decide +kernel
theorem dX9_value_27 : decode cX9_value 27 = .ok (.aload_n 0, 1) := by decide +kernel
theorem dX9_value_28 : decode cX9_value 28 = .ok (.invokevirtual 106, 3) := by decide +kernel
theorem dX9_value_31 : decode cX9_value 31 = .ok (.aload_n 0, 1) := by decide +kernel
theorem dX9_value_32 : decode cX9_value 32 = .ok (.invokevirtual 120, 3) := by decide +kernel
theorem dX9_value_35 : decode cX9_value 35 = .ok (.aload_n 0, 1) := by decide +kernel
theorem dX9_value_36 : decode cX9_value 36 = .ok (.getfield 7, 3) := by decide +kernel
theorem dX9_value_39 : decode cX9_value 39 = .ok (.iconst 4, 1) := by decide +kernel
theorem dX9_value_40 : decode cX9_value 40 = .ok (.iaload, 1) := by decide +kernel
theorem dX9_value_41 : decode cX9_value 41 = .ok (.invokestatic 67, 3) := by decide +kernel
theorem dX9_value_44 : decode cX9_value 44 = .ok (.iaload, 1) := by decide +kernel
theorem dX9_value_45 : decode cX9_value 45 = .ok (.sipush 1000, 3) := by decide +kernel
theorem dX9_value_48 : decode cX9_value 48 = .ok (.iadd, 1) := by decide +kernel
