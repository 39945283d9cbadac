theorem dX8_set_8 : decode cX8_set 8 = .ok (.invokevirtual 57, 3) := by decide +kernel
theorem dX8_set_11 : decode cX8_set 11 = .ok (.aload_n 0, 1) := by decide +kernel
theorem dX8_set_12 : decode cX8_set 12 = .ok (.aload_n 0, 1) := by decide +kernel
theorem dX8_set_13 : decode cX8_set 13 = .ok (.iload_n 1, 1) := by decide +kernel
theorem dX8_set_14 : decode cX8_set 14 = .ok (.iload_n 2, 1) := by decide +kernel
theorem dX8_set_15 : decode cX8_set 15 = .ok (.invokevirtual 61, 3) := by decide +kernel
theorem dX8_set_18 : decode cX8_set 18 = .ok (.invokevirtual 65, 3) := by decide +kernel
theorem dX8_set_21 : decode cX8_set 21 = .ok (.ireturn, 1) := by decide +kernel
set_option maxRecDepth 20000 in
theorem ggX8_pile_X0_copyFrom : GoodIn wsX8_pile wsX0_copyFrom := goodIn_r _ [6, 7, 8, 9, 10, 11, 12, 13, 14, 15, 16, 17, 18, 19, 20, 21, 22, 23, 24, 25, 26, 27, 28, 29, 30, 62, 63, 64, 65, 66, 67, 68, 69, 70, 71, 72, 73, 74, 75, 76, 77] (by decide +kernel) (by decide +kernel)
set_option maxRecDepth 20000 in
theorem gX8_pile_X0_copyFrom_n57 : GoodIn wsX8_pile (wsX0_copyFrom) := ggX8_pile_X0_copyFrom
set_option maxRecDepth 20000 in
theorem ggX8_pile_X8_addPile : GoodIn wsX8_pile wsX8_addPile := goodIn_r _ [35, 2, 36, 18, 37, 38, 21, 22, 23, 24, 54, 55, 56, 57, 58, 59, 60, 61, 62, 63, 64, 65, 66, 67, 68, 69, 70, 71, 72, 73, 74, 75] (by decide +kernel) (by decide +kernel)
set_option maxRecDepth 20000 in
theorem gX8_pile_X8_addPile : GoodIn wsX8_pile (wsV RX8 69 RX8 yX8_addPile wsX8_addPile) := goodIn_app (goodIn_of _ (by decide +kernel)) ggX8_pile_X8_addPile
set_option maxRecDepth 20000 in
theorem ggX8_pile_X8_recorded : GoodIn wsX8_pile wsX8_recorded := goodIn_r _ [42, 43, 1, 44, 45, 46, 47, 48, 49, 50, 51, 52, 53, 3, 4, 5, 6, 7, 8, 9, 10, 11, 12, 13, 14, 15, 16, 17, 18, 19, 20, 21, 22, 23, 24, 25, 26, 27, 28, 29, 30, 54, 55, 56, 57, 58, 59, 60, 61, 78, 79, 62, 63, 64, 65, 66, 67, 68, 69, 70, 71, 72, 73, 74, 75, 76, 77] (by decide +kernel) (by decide +kernel)
set_option maxRecDepth 20000 in
theorem gX8_pile_X8_recorded : GoodIn wsX8_pile (wsV RX8 65 RX8 yX8_recorded wsX8_recorded) := goodIn_app (goodIn_of _ (by decide +kernel)) ggX8_pile_X8_recorded
theorem dX8_pile_0 : decode cX8_pile 0 = .ok (.aload_n 0, 1) := by decide +kernel
theorem dX8_pile_1 : decode cX8_pile 1 = .ok (.getfield 16, 3) := by decide +kernel
theorem dX8_pile_4 : decode cX8_pile 4 = .ok (.aload_n 0, 1) := by decide +kernel
theorem dX8_pile_5 : decode cX8_pile 5 = .ok (.getfield 12, 3) := by decide +kernel
theorem dX8_pile_8 : decode cX8_pile 8 = .ok (.invokevirtual 57, 3) := by decide +kernel
theorem dX8_pile_11 : decode cX8_pile 11 = .ok (.aload_n 0, 1) := by decide +kernel
theorem dX8_pile_12 : decode cX8_pile 12 = .ok (.aload_n 0, 1) := by decide +kernel
theorem dX8_pile_13 : decode cX8_pile 13 = .ok (.iload_n 1, 1) := by decide +kernel
theorem dX8_pile_14 : decode cX8_pile 14 = .ok (.iload_n 2, 1) := by decide +kernel
theorem dX8_pile_15 : decode cX8_pile 15 = .ok (.iload_n 3, 1) := by decide +kernel
theorem dX8_pile_16 : decode cX8_pile 16 = .ok (.invokevirtual 69, 3) := by decide +kernel
theorem dX8_pile_19 : decode cX8_pile 19 = .ok (.invokevirtual 65, 3) := by decide +kernel
theorem dX8_pile_22 : decode cX8_pile 22 = .ok (.ireturn, 1) := by decide +kernel
set_option maxRecDepth 20000 in
theorem ggX8_passes_X0_copyFrom : GoodIn wsX8_passes wsX0_copyFrom := goodIn_r _ [6, 7, 8, 9, 10, 11, 12, 13, 14, 15, 16, 17, 18, 19, 20, 21, 22, 23, 24, 25, 26, 27, 28, 29, 30, 59, 60, 61, 62, 63, 64, 65, 66, 67, 68, 69, 70, 71, 72, 73, 74] (by decide +kernel) (by decide +kernel)
set_option maxRecDepth 20000 in
theorem gX8_passes_X0_copyFrom_n57 : GoodIn wsX8_passes (wsX0_copyFrom) := ggX8_passes_X0_copyFrom
set_option maxRecDepth 20000 in
theorem ggX8_passes_X8_givePasses : GoodIn wsX8_passes wsX8_givePasses := goodIn_r _ [35, 2, 51, 52, 53, 54, 55, 56, 57, 58, 59, 60, 61, 62, 63, 64, 65, 66, 67, 68, 73, 74] (by decide +kernel) (by decide +kernel)
set_option maxRecDepth 20000 in
theorem gX8_passes_X8_givePasses : GoodIn wsX8_passes (wsV RX8 73 RX8 yX8_givePasses wsX8_givePasses) := goodIn_app (goodIn_of _ (by decide +kernel)) ggX8_passes_X8_givePasses
set_option maxRecDepth 20000 in
theorem ggX8_passes_X8_recorded : GoodIn wsX8_passes wsX8_recorded := goodIn_r _ [39, 40, 1, 41, 42, 43, 44, 45, 46, 47, 48, 49, 50, 3, 4, 5, 6, 7, 8, 9, 10, 11, 12, 13, 14, 15, 16, 17, 18, 19, 20, 21, 22, 23, 24, 25, 26, 27, 28, 29, 30, 51, 52, 53, 54, 55, 56, 57, 58, 75, 76, 59, 60, 61, 62, 63, 64, 65, 66, 67, 68, 69, 70, 71, 72, 73, 74] (by decide +kernel) (by decide +kernel)
set_option maxRecDepth 20000 in
theorem gX8_passes_X8_recorded : GoodIn wsX8_passes (wsV RX8 65 RX8 yX8_recorded wsX8_recorded) := goodIn_app (goodIn_of _ (by decide +kernel)) ggX8_passes_X8_recorded
theorem dX8_passes_0 : decode cX8_passes 0 = .ok (.aload_n 0, 1) := by decide +kernel
theorem dX8_passes_1 : decode cX8_passes 1 = .ok (.getfield 16, 3) := by decide +kernel
theorem dX8_passes_4 : decode cX8_passes 4 = .ok (.aload_n 0, 1) := by decide +kernel
theorem dX8_passes_5 : decode cX8_passes 5 = .ok (.getfield 12, 3) := by decide +kernel
theorem dX8_passes_8 : decode cX8_passes 8 = .ok (.invokevirtual 57, 3) := by decide +kernel
theorem dX8_passes_11 : decode cX8_passes 11 = .ok (.aload_n 0, 1) := by decide +kernel
theorem dX8_passes_12 : decode cX8_passes 12 = .ok (.aload_n 0, 1) := by decide +kernel
theorem dX8_passes_13 : decode cX8_passes 13 = .ok (.iload_n 1, 1) := by decide +kernel
theorem dX8_passes_14 : decode cX8_passes 14 = .ok (.iload_n 2, 1) := by decide +kernel
theorem dX8_passes_15 : decode cX8_passes 15 = .ok (.invokevirtual 73, 3) := by decide +kernel
theorem dX8_passes_18 : decode cX8_passes 18 = .ok (.invokevirtual 65, 3) := by decide +kernel
theorem dX8_passes_21 : decode cX8_passes 21 = .ok (.ireturn, 1) := by decide +kernel
set_option maxRecDepth 20000 in
theorem ggX8_begin_X0_copyFrom : GoodIn wsX8_begin wsX0_copyFrom := goodIn_r _ [6, 7, 8, 9, 10, 11, 12, 13, 14, 15, 16, 17, 18, 19, 20, 21, 22, 23, 24, 25, 26, 27, 28, 29, 30, 61, 62, 63, 64, 65, 66, 67, 68, 69, 70, 71, 72, 73, 74, 75, 76] (by decide +kernel) (by decide +kernel)
set_option maxRecDepth 20000 in
theorem gX8_begin_X0_copyFrom_n57 : GoodIn wsX8_begin (wsX0_copyFrom) := ggX8_begin_X0_copyFrom
set_option maxRecDepth 20000 in
theorem ggX8_begin_X0_restart : GoodIn wsX8_begin wsX0_restart := goodIn_r _ [33, 9, 11, 12, 13, 14, 15, 16, 61, 62, 63, 64, 65, 66, 67, 68, 69, 70, 71, 72, 73, 74, 75, 76] (by decide +kernel) (by decide +kernel)
set_option maxRecDepth 20000 in
theorem gX8_begin_X0_restart_n76 : GoodIn wsX8_begin (wsX0_restart) := ggX8_begin_X0_restart
set_option maxRecDepth 20000 in
theorem ggX8_begin_X0_tokenSum : GoodIn wsX8_begin wsX0_tokenSum := goodIn_r _ [36, 9, 61, 62, 63, 64, 65, 66, 67, 68, 69, 70, 71, 72, 73, 74] (by decide +kernel) (by decide +kernel)
set_option maxRecDepth 20000 in
theorem gX8_begin_X0_tokenSum_n79 : GoodIn wsX8_begin (wsX0_tokenSum) := ggX8_begin_X0_tokenSum
set_option maxRecDepth 20000 in
theorem ggX8_begin_X8_recorded : GoodIn wsX8_begin wsX8_recorded := goodIn_r _ [41, 42, 1, 43, 44, 45, 46, 47, 48, 49, 50, 51, 52, 3, 4, 5, 6, 7, 8, 9, 10, 11, 12, 13, 14, 15, 16, 17, 18, 19, 20, 21, 22, 23, 24, 25, 26, 27, 28, 29, 30, 53, 54, 55, 56, 57, 58, 59, 60, 77, 78, 61, 62, 63, 64, 65, 66, 67, 68, 69, 70, 71, 72, 73, 74, 75, 76] (by decide +kernel) (by decide +kernel)
set_option maxRecDepth 20000 in
theorem gX8_begin_X8_recorded : GoodIn wsX8_begin (wsV RX8 65 RX8 yX8_recorded wsX8_recorded) := goodIn_app (goodIn_of _ (by decide +kernel)) ggX8_begin_X8_recorded
theorem dX8_begin_0 : decode cX8_begin 0 = .ok (.aload_n 0, 1) := by decide +kernel
theorem dX8_begin_1 : decode cX8_begin 1 = .ok (.getfield 16, 3) := by decide +kernel
theorem dX8_begin_4 : decode cX8_begin 4 = .ok (.aload_n 0, 1) := by decide +kernel
theorem dX8_begin_5 : decode cX8_begin 5 = .ok (.getfield 12, 3) := by decide +kernel
theorem dX8_begin_8 : decode cX8_begin 8 = .ok (.invokevirtual 57, 3) := by decide +kernel
theorem dX8_begin_11 : decode cX8_begin 11 = .ok (.aload_n 0, 1) := by decide +kernel
theorem dX8_begin_12 : decode cX8_begin 12 = .ok (.getfield 12, 3) := by decide +kernel
theorem dX8_begin_15 : decode cX8_begin 15 = .ok (.invokevirtual 76, 3) := by decide +kernel
theorem dX8_begin_18 : decode cX8_begin 18 = .ok (.aload_n 0, 1) := by decide +kernel
theorem dX8_begin_19 : decode cX8_begin 19 = .ok (.aload_n 0, 1) := by decide +kernel
theorem dX8_begin_20 : decode cX8_begin 20 = .ok (.getfield 12, 3) := by decide +kernel
theorem dX8_begin_23 : decode cX8_begin 23 = .ok (.invokevirtual 79, 3) := by decide +kernel
theorem dX8_begin_26 : decode cX8_begin 26 = .ok (.invokevirtual 65, 3) := by decide +kernel
theorem dX8_begin_29 : decode cX8_begin 29 = .ok (.ireturn, 1) := by decide +kernel
set_option maxRecDepth 20000 in
theorem ggX8_take_X0_copyFrom : GoodIn wsX8_take wsX0_copyFrom := goodIn_r _ [6, 7, 8, 9, 10, 11, 12, 13, 14, 15, 16, 17, 18, 19, 20, 21, 22, 23, 24, 25, 26, 27, 28, 29, 30, 93, 94, 95, 96, 97, 98, 99, 100, 101, 102, 103, 104, 105, 106, 107, 108] (by decide +kernel) (by decide +kernel)
set_option maxRecDepth 20000 in
theorem gX8_take_X0_copyFrom_n57 : GoodIn wsX8_take (wsX0_copyFrom) := ggX8_take_X0_copyFrom
set_option maxRecDepth 20000 in
theorem ggX8_take_X8_takeTokens : GoodIn wsX8_take wsX8_takeTokens := goodIn_r _ [35, 2, 36, 4, 37, 38, 10, 9, 39, 40, 34, 41, 42, 43, 44, 45, 46, 47, 48, 16, 7, 13, 15, 49, 50, 51, 52, 53, 54, 55, 11, 12, 56, 57, 58, 59, 60, 61, 62, 63, 64, 65, 66, 67, 68, 69, 14, 85, 86, 87, 88, 89, 90, 91, 92, 93, 94, 95, 96, 97, 98, 99, 100, 101, 102, 103, 104, 105, 106, 107, 108] (by decide +kernel) (by decide +kernel)
set_option maxRecDepth 20000 in
theorem gX8_take_X8_takeTokens : GoodIn wsX8_take (wsV RX8 83 RX8 yX8_takeTokens wsX8_takeTokens) := goodIn_app (goodIn_of _ (by decide +kernel)) ggX8_take_X8_takeTokens
set_option maxRecDepth 20000 in
theorem ggX8_take_X8_recorded : GoodIn wsX8_take wsX8_recorded := goodIn_r _ [73, 74, 1, 75, 76, 77, 78, 79, 80, 81, 82, 83, 84, 3, 4, 5, 6, 7, 8, 9, 10, 11, 12, 13, 14, 15, 16, 17, 18, 19, 20, 21, 22, 23, 24, 25, 26, 27, 28, 29, 30, 85, 86, 87, 88, 89, 90, 91, 92, 109, 110, 93, 94, 95, 96, 97, 98, 99, 100, 101, 102, 103, 104, 105, 106, 107, 108] (by decide +kernel) (by decide +kernel)
set_option maxRecDepth 20000 in
theorem gX8_take_X8_recorded : GoodIn wsX8_take (wsV RX8 65 RX8 yX8_recorded wsX8_recorded) := goodIn_app (goodIn_of _ (by decide +kernel)) ggX8_take_X8_recorded
theorem dX8_take_0 : decode cX8_take 0 = .ok (.aload_n 0, 1) := by decide +kernel
theorem dX8_take_1 : decode cX8_take 1 = .ok (.getfield 16, 3) := by decide +kernel
theorem dX8_take_4 : decode cX8_take 4 = .ok (.aload_n 0, 1) := by decide +kernel
theorem dX8_take_5 : decode cX8_take 5 = .ok (.getfield 12, 3) := by decide +kernel
theorem dX8_take_8 : decode cX8_take 8 = .ok (.invokevirtual 57, 3) := by decide +kernel
theorem dX8_take_11 : decode cX8_take 11 = .ok (.aload_n 0, 1) := by decide +kernel
theorem dX8_take_12 : decode cX8_take 12 = .ok (.aload_n 0, 1) := by decide +kernel
theorem dX8_take_13 : decode cX8_take 13 = .ok (.iload_n 1, 1) := by decide +kernel
theorem dX8_take_14 : decode cX8_take 14 = .ok (.iload_n 2, 1) := by decide +kernel
theorem dX8_take_15 : decode cX8_take 15 = .ok (.invokevirtual 83, 3) := by decide +kernel
theorem dX8_take_18 : decode cX8_take 18 = .ok (.invokevirtual 65, 3) := by decide +kernel
theorem dX8_take_21 : decode cX8_take 21 = .ok (.ireturn, 1) := by decide +kernel
set_option maxRecDepth 20000 in
theorem ggX8_pass_X0_copyFrom : GoodIn wsX8_pass wsX0_copyFrom := goodIn_r _ [6, 7, 8, 9, 10, 11, 12, 13, 14, 15, 16, 17, 18, 19, 20, 21, 22, 23, 24, 25, 26, 27, 28, 29, 30, 86, 87, 88, 89, 90, 91, 92, 93, 94, 95, 96, 97, 98, 99, 100, 101] (by decide +kernel) (by decide +kernel)
set_option maxRecDepth 20000 in
theorem gX8_pass_X0_copyFrom_n57 : GoodIn wsX8_pass (wsX0_copyFrom) := ggX8_pass_X0_copyFrom
set_option maxRecDepth 20000 in
theorem ggX8_pass_X8_usePass : GoodIn wsX8_pass wsX8_usePass := goodIn_r _ [35, 2, 36, 4, 37, 38, 39, 40, 41, 42, 16, 9, 7, 13, 15, 43, 44, 34, 45, 46, 47, 48, 49, 11, 12, 50, 51, 52, 53, 54, 55, 56, 57, 58, 59, 60, 61, 62, 14, 78, 79, 80, 81, 82, 83, 84, 85, 86, 87, 88, 89, 90, 91, 92, 93, 94, 95, 96, 97, 98, 99, 100, 101] (by decide +kernel) (by decide +kernel)
set_option maxRecDepth 20000 in
theorem gX8_pass_X8_usePass : GoodIn wsX8_pass (wsV RX8 86 RX8 yX8_usePass wsX8_usePass) := goodIn_app (goodIn_of _ (by decide +kernel)) ggX8_pass_X8_usePass
set_option maxRecDepth 20000 in
theorem ggX8_pass_X8_recorded : GoodIn wsX8_pass wsX8_recorded := goodIn_r _ [66, 67, 1, 68, 69, 70, 71, 72, 73, 74, 75, 76, 77, 3, 4, 5, 6, 7, 8, 9, 10, 11, 12, 13, 14, 15, 16, 17, 18, 19, 20, 21, 22, 23, 24, 25, 26, 27, 28, 29, 30, 78, 79, 80, 81, 82, 83, 84, 85, 102, 103, 86, 87, 88, 89, 90, 91, 92, 93, 94, 95, 96, 97, 98, 99, 100, 101] (by decide +kernel) (by decide +kernel)
set_option maxRecDepth 20000 in
theorem gX8_pass_X8_recorded : GoodIn wsX8_pass (wsV RX8 65 RX8 yX8_recorded wsX8_recorded) := goodIn_app (goodIn_of _ (by decide +kernel)) ggX8_pass_X8_recorded
theorem dX8_pass_0 : decode cX8_pass 0 = .ok (.aload_n 0, 1) := by decide +kernel
theorem dX8_pass_1 : decode cX8_pass 1 = .ok (.getfield 16, 3) := by decide +kernel
theorem dX8_pass_4 : decode cX8_pass 4 = .ok (.aload_n 0, 1) := by decide +kernel
theorem dX8_pass_5 : decode cX8_pass 5 = .ok (.getfield 12, 3) := by decide +kernel
theorem dX8_pass_8 : decode cX8_pass 8 = .ok (.invokevirtual 57, 3) := by decide +kernel
theorem dX8_pass_11 : decode cX8_pass 11 = .ok (.aload_n 0, 1) := by decide +kernel
theorem dX8_pass_12 : decode cX8_pass 12 = .ok (.aload_n 0, 1) := by decide +kernel
theorem dX8_pass_13 : decode cX8_pass 13 = .ok (.invokevirtual 86, 3) := by decide +kernel
theorem dX8_pass_16 : decode cX8_pass 16 = .ok (.invokevirtual 65, 3) := by decide +kernel
theorem dX8_pass_19 : decode cX8_pass 19 = .ok (.ireturn, 1) := by decide +kernel
set_option maxRecDepth 20000 in
theorem ggX8_play_X0_copyFrom : GoodIn wsX8_play wsX0_copyFrom := goodIn_r _ [6, 7, 8, 9, 10, 11, 12, 13, 14, 15, 16, 17, 18, 19, 20, 21, 22, 23, 24, 25, 26, 27, 28, 29, 30, 161, 162, 163, 164, 165, 166, 167, 168, 169, 170, 171, 172, 173, 174, 175, 176] (by decide +kernel) (by decide +kernel)
set_option maxRecDepth 20000 in
theorem gX8_play_X0_copyFrom_n57 : GoodIn wsX8_play (wsX0_copyFrom) := ggX8_play_X0_copyFrom
set_option maxRecDepth 20000 in
theorem ggX8_play_X8_playOn : GoodIn wsX8_play wsX8_playOn := goodIn_r _ [35, 2, 36, 37, 4, 38, 39, 40, 41, 42, 43, 16, 9, 7, 13, 15, 44, 45, 34, 46, 47, 48, 49, 50, 11, 12, 51, 52, 53, 54, 55, 56, 57, 58, 59, 60, 61, 62, 63, 64, 65, 66, 67, 68, 69, 70, 71, 72, 73, 74, 75, 76, 77, 78, 79, 80, 81, 82, 83, 84, 85, 86, 87, 88, 89, 90, 91, 92, 93, 94, 95, 96, 97, 98, 99, 100, 101, 102, 103, 104, 105, 106, 107, 108, 109, 110, 111, 112, 113, 114, 115, 116, 117, 118, 119, 120, 121, 122, 123, 124, 125, 126, 127, 128, 129, 14, 130, 131, 132, 133, 134, 135, 136, 137, 10, 153, 154, 155, 156, 157, 158, 159, 160, 161, 162, 163, 164, 165, 166, 167, 168, 169, 170, 171, 172, 173, 174, 175, 176, 177, 178, 179, 180, 181, 182, 183, 184] (by decide +kernel) (by decide +kernel)
set_option maxRecDepth 20000 in
theorem gX8_play_X8_playOn : GoodIn wsX8_play (wsV RX8 89 RX8 yX8_playOn wsX8_playOn) := goodIn_app (goodIn_of _ (by decide +kernel)) ggX8_play_X8_playOn
set_option maxRecDepth 20000 in
theorem ggX8_play_X8_recorded : GoodIn wsX8_play wsX8_recorded := goodIn_r _ [141, 142, 1, 143, 144, 145, 146, 147, 148, 149, 150, 151, 152, 3, 4, 5, 6, 7, 8, 9, 10, 11, 12, 13, 14, 15, 16, 17, 18, 19, 20, 21, 22, 23, 24, 25, 26, 27, 28, 29, 30, 153, 154, 155, 156, 157, 158, 159, 160, 185, 186, 161, 162, 163, 164, 165, 166, 167, 168, 169, 170, 171, 172, 173, 174, 175, 176] (by decide +kernel) (by decide +kernel)
set_option maxRecDepth 20000 in
theorem gX8_play_X8_recorded : GoodIn wsX8_play (wsV RX8 65 RX8 yX8_recorded wsX8_recorded) := goodIn_app (goodIn_of _ (by decide +kernel)) ggX8_play_X8_recorded
theorem dX8_play_0 : decode cX8_play 0 = .ok (.aload_n 0, 1) := by decide +kernel
theorem dX8_play_1 : decode cX8_play 1 = .ok (.getfield 16, 3) := by decide +kernel
theorem dX8_play_4 : decode cX8_play 4 = .ok (.aload_n 0, 1) := by decide +kernel
theorem dX8_play_5 : decode cX8_play 5 = .ok (.getfield 12, 3) := by decide +kernel
theorem dX8_play_8 : decode cX8_play 8 = .ok (.invokevirtual 57, 3) := by decide +kernel
theorem dX8_play_11 : decode cX8_play 11 = .ok (.aload_n 0, 1) := by decide +kernel
theorem dX8_play_12 : decode cX8_play 12 = .ok (.aload_n 0, 1) := by decide +kernel
theorem dX8_play_13 : decode cX8_play 13 = .ok (.iload_n 1, 1) := by decide +kernel
theorem dX8_play_14 : decode cX8_play 14 = .ok (.invokevirtual 89, 3) := by decide +kernel
theorem dX8_play_17 : decode cX8_play 17 = .ok (.invokevirtual 65, 3) := by decide +kernel
theorem dX8_play_20 : decode cX8_play 20 = .ok (.ireturn, 1) := by decide +kernel
set_option maxRecDepth 20000 in
theorem ggX8_ofPile_X0_hasPile : GoodIn wsX8_ofPile wsX0_hasPile := goodIn_r _ [6, 7, 8, 37, 38, 39, 40, 41, 42, 43, 44, 45, 46] (by decide +kernel) (by decide +kernel)
set_option maxRecDepth 20000 in
theorem gX8_ofPile_X0_hasPile_n92 : GoodIn wsX8_ofPile (wsX0_hasPile) := ggX8_ofPile_X0_hasPile
set_option maxRecDepth 20000 in
theorem ggX8_ofPile_X5_nimber : GoodIn wsX8_ofPile wsX5_nimber := goodIn_r _ [12, 13, 14, 15, 16, 10, 17, 18, 19, 20, 21, 22, 23, 24, 25, 26, 27, 28, 51, 52] (by decide +kernel) (by decide +kernel)
set_option maxRecDepth 20000 in
theorem gX8_ofPile_X5_nimber_n119 : GoodIn wsX8_ofPile (wsX5_nimber) := ggX8_ofPile_X5_nimber
theorem dX8_ofPile_0 : decode cX8_ofPile 0 = .ok (.aload_n 0, 1) := by decide +kernel
theorem dX8_ofPile_1 : decode cX8_ofPile 1 = .ok (.getfield 12, 3) := by decide +kernel
theorem dX8_ofPile_4 : decode cX8_ofPile 4 = .ok (.iload_n 1, 1) := by decide +kernel
theorem dX8_ofPile_5 : decode cX8_ofPile 5 = .ok (.invokevirtual 92, 3) := by decide +kernel
theorem dX8_ofPile_8 : decode cX8_ofPile 8 = .ok (.ifCond .ne 5, 3) := by decide +kernel
theorem dX8_ofPile_11 : decode cX8_ofPile 11 = .ok (.iconst (-1), 1) := by decide +kernel
theorem dX8_ofPile_12 : decode cX8_ofPile 12 = .ok (.ireturn, 1) := by decide +kernel
theorem dX8_ofPile_13 : decode cX8_ofPile 13 = .ok (.aload_n 0, 1) := by decide +kernel
theorem dX8_ofPile_14 : decode cX8_ofPile 14 = .ok (.getfield 12, 3) := by decide +kernel
theorem dX8_ofPile_17 : decode cX8_ofPile 17 = .ok (.getfield 96, 3) := by decide +kernel
theorem dX8_ofPile_20 : decode cX8_ofPile 20 = .ok (.iload_n 1, 1) := by decide +kernel
theorem dX8_ofPile_21 : decode cX8_ofPile 21 = .ok (.aaload, 1) := by decide +kernel
theorem dX8_ofPile_22 : decode cX8_ofPile 22 = .ok (.astore_n 3, 1) := by decide +kernel
theorem dX8_ofPile_23 : decode cX8_ofPile 23 = .ok (.iload_n 2, 1) := by decide +kernel
theorem dX8_ofPile_24 : decode cX8_ofPile 24 = .ok (.tableswitch 83 0 4 #[36, 41, 46, 59, 64], 36) := by decide +kernel
theorem dX8_ofPile_60 : decode cX8_ofPile 60 = .ok (.aload_n 3, 1) := by decide +kernel
theorem dX8_ofPile_61 : decode cX8_ofPile 61 = .ok (.getfield 100, 3) := by decide +kernel
theorem dX8_ofPile_64 : decode cX8_ofPile 64 = .ok (.ireturn, 1) := by decide +kernel
theorem dX8_ofPile_65 : decode cX8_ofPile 65 = .ok (.aload_n 3, 1) := by decide +kernel
theorem dX8_ofPile_66 : decode cX8_ofPile 66 = .ok (.getfield 106, 3) := by decide +kernel
theorem dX8_ofPile_69 : decode cX8_ofPile 69 = .ok (.ireturn, 1) := by decide +kernel
theorem dX8_ofPile_70 : decode cX8_ofPile 70 = .ok (.aload_n 3, 1) := by decide +kernel
theorem dX8_ofPile_71 : decode cX8_ofPile 71 = .ok (.getfield 109, 3) := by decide +kernel
theorem dX8_ofPile_74 : decode cX8_ofPile 74 = .ok (.ifCond .eq 7, 3) := by decide +kernel
theorem dX8_ofPile_77 : decode cX8_ofPile 77 = .ok (.iconst 1, 1) := by decide +kernel
theorem dX8_ofPile_78 : decode cX8_ofPile 78 = .ok (.goto 4, 3) := by decide +kernel
theorem dX8_ofPile_81 : decode cX8_ofPile 81 = .ok (.iconst 0, 1) := by decide +kernel
theorem dX8_ofPile_82 : decode cX8_ofPile 82 = .ok (.ireturn, 1) := by decide +kernel
theorem dX8_ofPile_83 : decode cX8_ofPile 83 = .ok (.aload_n 3, 1) := by decide +kernel
theorem dX8_ofPile_84 : decode cX8_ofPile 84 = .ok (.getfield 113, 3) := by decide +kernel
theorem dX8_ofPile_87 : decode cX8_ofPile 87 = .ok (.ireturn, 1) := by decide +kernel
theorem dX8_ofPile_88 : decode cX8_ofPile 88 = .ok (.aload_n 0, 1) := by decide +kernel
theorem dX8_ofPile_89 : decode cX8_ofPile 89 = .ok (.getfield 45, 3) := by decide +kernel
theorem dX8_ofPile_92 : decode cX8_ofPile 92 = .ok (.aload_n 0, 1) := by decide +kernel
theorem dX8_ofPile_93 : decode cX8_ofPile 93 = .ok (.getfield 12, 3) := by decide +kernel
theorem dX8_ofPile_96 : decode cX8_ofPile 96 = .ok (.getfield 116, 3) := by decide +kernel
theorem dX8_ofPile_99 : decode cX8_ofPile 99 = .ok (.aload_n 3, 1) := by decide +kernel
theorem dX8_ofPile_100 : decode cX8_ofPile 100 = .ok (.getfield 100, 3) := by decide +kernel
theorem dX8_ofPile_103 : decode cX8_ofPile 103 = .ok (.invokevirtual 119, 3) := by decide +kernel
theorem dX8_ofPile_106 : decode cX8_ofPile 106 = .ok (.ireturn, 1) := by decide +kernel
theorem dX8_ofPile_107 : decode cX8_ofPile 107 = .ok (.bipush (-2), 2) := by decide +kernel
theorem dX8_ofPile_109 : decode cX8_ofPile 109 = .ok (.ireturn, 1) := by decide +kernel
set_option maxRecDepth 20000 in
theorem ggX8_ofPlayer_X0_player : GoodIn wsX8_ofPlayer wsX0_player := goodIn_r _ [5, 6, 7, 48, 49, 50, 51, 52, 53, 54, 55, 56, 57] (by decide +kernel) (by decide +kernel)
set_option maxRecDepth 20000 in
theorem gX8_ofPlayer_X0_player_n122 : GoodIn wsX8_ofPlayer (wsX0_player) := ggX8_ofPlayer_X0_player
set_option maxRecDepth 20000 in
theorem ggX8_ofPlayer_X0_purse : GoodIn wsX8_ofPlayer wsX0_purse := goodIn_r _ [10, 11, 12, 2, 4, 3, 5, 6, 7, 13, 14, 15, 16, 17, 18, 19, 20, 21, 22, 23, 24, 25, 26, 27, 28, 29, 30, 31, 32, 33, 34, 35, 36, 37, 46, 47, 48, 49, 50, 51, 52, 53, 54, 55, 56, 57, 58, 59, 60, 61] (by decide +kernel) (by decide +kernel)
set_option maxRecDepth 20000 in
theorem gX8_ofPlayer_X0_purse_n134 : GoodIn wsX8_ofPlayer (wsX0_purse) := ggX8_ofPlayer_X0_purse
theorem dX8_ofPlayer_0 : decode cX8_ofPlayer 0 = .ok (.iload_n 1, 1) := by decide +kernel
theorem dX8_ofPlayer_1 : decode cX8_ofPlayer 1 = .ok (.ifCond .eq 10, 3) := by decide +kernel
theorem dX8_ofPlayer_4 : decode cX8_ofPlayer 4 = .ok (.iload_n 1, 1) := by decide +kernel
theorem dX8_ofPlayer_5 : decode cX8_ofPlayer 5 = .ok (.iconst 1, 1) := by decide +kernel
theorem dX8_ofPlayer_6 : decode cX8_ofPlayer 6 = .ok (.if_icmp .eq 5, 3) := by decide +kernel
theorem dX8_ofPlayer_9 : decode cX8_ofPlayer 9 = .ok (.iconst (-1), 1) := by decide +kernel
theorem dX8_ofPlayer_10 : decode cX8_ofPlayer 10 = .ok (.ireturn, 1) := by decide +kernel
theorem dX8_ofPlayer_11 : decode cX8_ofPlayer 11 = .ok (.iload_n 2, 1) := by decide +kernel
theorem dX8_ofPlayer_12 : decode cX8_ofPlayer 12 = .ok (.tableswitch 64 0 2 #[28, 40, 52], 28) := by decide +kernel
theorem dX8_ofPlayer_40 : decode cX8_ofPlayer 40 = .ok (.aload_n 0, 1) := by decide +kernel
theorem dX8_ofPlayer_41 : decode cX8_ofPlayer 41 = .ok (.getfield 12, 3) := by decide +kernel
theorem dX8_ofPlayer_44 : decode cX8_ofPlayer 44 = .ok (.iload_n 1, 1) := by decide +kernel
theorem dX8_ofPlayer_45 : decode cX8_ofPlayer 45 = .ok (.invokevirtual 122, 3) := by decide +kernel
theorem dX8_ofPlayer_48 : decode cX8_ofPlayer 48 = .ok (.getfield 126, 3) := by decide +kernel
theorem dX8_ofPlayer_51 : decode cX8_ofPlayer 51 = .ok (.ireturn, 1) := by decide +kernel
theorem dX8_ofPlayer_52 : decode cX8_ofPlayer 52 = .ok (.aload_n 0, 1) := by decide +kernel
theorem dX8_ofPlayer_53 : decode cX8_ofPlayer 53 = .ok (.getfield 12, 3) := by decide +kernel
theorem dX8_ofPlayer_56 : decode cX8_ofPlayer 56 = .ok (.iload_n 1, 1) := by decide +kernel
theorem dX8_ofPlayer_57 : decode cX8_ofPlayer 57 = .ok (.invokevirtual 122, 3) := by decide +kernel
theorem dX8_ofPlayer_60 : decode cX8_ofPlayer 60 = .ok (.getfield 131, 3) := by decide +kernel
theorem dX8_ofPlayer_63 : decode cX8_ofPlayer 63 = .ok (.ireturn, 1) := by decide +kernel
theorem dX8_ofPlayer_64 : decode cX8_ofPlayer 64 = .ok (.aload_n 0, 1) := by decide +kernel
theorem dX8_ofPlayer_65 : decode cX8_ofPlayer 65 = .ok (.getfield 12, 3) := by decide +kernel
theorem dX8_ofPlayer_68 : decode cX8_ofPlayer 68 = .ok (.iload_n 1, 1) := by decide +kernel
theorem dX8_ofPlayer_69 : decode cX8_ofPlayer 69 = .ok (.invokevirtual 134, 3) := by decide +kernel
theorem dX8_ofPlayer_72 : decode cX8_ofPlayer 72 = .ok (.bipush 100, 2) := by decide +kernel
theorem dX8_ofPlayer_74 : decode cX8_ofPlayer 74 = .ok (.iadd, 1) := by decide +kernel
theorem dX8_ofPlayer_75 : decode cX8_ofPlayer 75 = .ok (.ireturn, 1) := by decide +kernel
theorem dX8_ofPlayer_76 : decode cX8_ofPlayer 76 = .ok (.bipush (-2), 2) := by decide +kernel
theorem dX8_ofPlayer_78 : decode cX8_ofPlayer 78 = .ok (.ireturn, 1) := by decide +kernel
set_option maxRecDepth 20000 in
theorem ggX8_count_X0_tokenSum : GoodIn wsX8_count wsX0_tokenSum := goodIn_r _ [7, 8, 43, 44, 45, 46, 47, 48, 49, 50, 51, 52, 57, 58, 59, 60] (by decide +kernel) (by decide +kernel)
set_option maxRecDepth 20000 in
theorem gX8_count_X0_tokenSum_n79 : GoodIn wsX8_count (wsX0_tokenSum) := ggX8_count_X0_tokenSum
set_option maxRecDepth 20000 in
theorem ggX8_count_X0_isOver : GoodIn wsX8_count wsX0_isOver := goodIn_r _ [11, 12, 13, 14, 5, 15, 16, 8, 17, 18, 19, 20, 21, 22, 23, 24, 25, 26, 27, 28, 29, 30, 4, 6, 7, 43, 44, 45, 46, 47, 48, 49, 50, 51, 52, 57, 58, 59, 60, 61, 62] (by decide +kernel) (by decide +kernel)
set_option maxRecDepth 20000 in
theorem gX8_count_X0_isOver_n143 : GoodIn wsX8_count (wsX0_isOver) := ggX8_count_X0_isOver
set_option maxRecDepth 20000 in
theorem ggX8_count_X0_winner : GoodIn wsX8_count wsX0_winner := goodIn_r _ [33, 16, 18, 34, 9, 10, 5, 11, 12, 13, 14, 15, 8, 17, 19, 20, 21, 22, 23, 24, 25, 26, 27, 28, 29, 30, 4, 6, 7, 43, 44, 45, 46, 47, 48, 49, 50, 51, 52, 57, 58, 59, 60, 61, 62] (by decide +kernel) (by decide +kernel)
set_option maxRecDepth 20000 in
theorem gX8_count_X0_winner_n147 : GoodIn wsX8_count (wsX0_winner) := ggX8_count_X0_winner
theorem dX8_count_0 : decode cX8_count 0 = .ok (.iload_n 1, 1) := by decide +kernel
theorem dX8_count_1 : decode cX8_count 1 = .ok (.tableswitch 163 0 10 #[59, 67, 75, 83, 99, 107, 115, 131, 139, 147, 155], 59) := by decide +kernel
theorem dX8_count_60 : decode cX8_count 60 = .ok (.aload_n 0, 1) := by decide +kernel
theorem dX8_count_61 : decode cX8_count 61 = .ok (.getfield 12, 3) := by decide +kernel
theorem dX8_count_64 : decode cX8_count 64 = .ok (.getfield 137, 3) := by decide +kernel
theorem dX8_count_67 : decode cX8_count 67 = .ok (.ireturn, 1) := by decide +kernel
theorem dX8_count_68 : decode cX8_count 68 = .ok (.aload_n 0, 1) := by decide +kernel
theorem dX8_count_69 : decode cX8_count 69 = .ok (.getfield 12, 3) := by decide +kernel
theorem dX8_count_72 : decode cX8_count 72 = .ok (.invokevirtual 79, 3) := by decide +kernel
theorem dX8_count_75 : decode cX8_count 75 = .ok (.ireturn, 1) := by decide +kernel
theorem dX8_count_76 : decode cX8_count 76 = .ok (.aload_n 0, 1) := by decide +kernel
theorem dX8_count_77 : decode cX8_count 77 = .ok (.getfield 12, 3) := by decide +kernel
theorem dX8_count_80 : decode cX8_count 80 = .ok (.getfield 140, 3) := by decide +kernel
theorem dX8_count_83 : decode cX8_count 83 = .ok (.ireturn, 1) := by decide +kernel
theorem dX8_count_84 : decode cX8_count 84 = .ok (.aload_n 0, 1) := by decide +kernel
theorem dX8_count_85 : decode cX8_count 85 = .ok (.getfield 12, 3) := by decide +kernel
theorem dX8_count_88 : decode cX8_count 88 = .ok (.invokevirtual 143, 3) := by decide +kernel
theorem dX8_count_91 : decode cX8_count 91 = .ok (.ifCond .eq 7, 3) := by decide +kernel
theorem dX8_count_94 : decode cX8_count 94 = .ok (.iconst 1, 1) := by decide +kernel
theorem dX8_count_95 : decode cX8_count 95 = .ok (.goto 4, 3) := by decide +kernel
theorem dX8_count_98 : decode cX8_count 98 = .ok (.iconst 0, 1) := by decide +kernel
theorem dX8_count_99 : decode cX8_count 99 = .ok (.ireturn, 1) := by decide +kernel
theorem dX8_count_100 : decode cX8_count 100 = .ok (.aload_n 0, 1) := by decide +kernel
theorem dX8_count_101 : decode cX8_count 101 = .ok (.getfield 12, 3) := by decide +kernel
theorem dX8_count_104 : decode cX8_count 104 = .ok (.invokevirtual 147, 3) := by decide +kernel
theorem dX8_count_107 : decode cX8_count 107 = .ok (.ireturn, 1) := by decide +kernel
theorem dX8_count_108 : decode cX8_count 108 = .ok (.aload_n 0, 1) := by decide +kernel
theorem dX8_count_109 : decode cX8_count 109 = .ok (.getfield 12, 3) := by decide +kernel
theorem dX8_count_112 : decode cX8_count 112 = .ok (.getfield 150, 3) := by decide +kernel
theorem dX8_count_115 : decode cX8_count 115 = .ok (.ireturn, 1) := by decide +kernel
theorem dX8_count_116 : decode cX8_count 116 = .ok (.aload_n 0, 1) := by decide +kernel
theorem dX8_count_117 : decode cX8_count 117 = .ok (.getfield 12, 3) := by decide +kernel
theorem dX8_count_120 : decode cX8_count 120 = .ok (.getfield 153, 3) := by decide +kernel
theorem dX8_count_123 : decode cX8_count 123 = .ok (.ifCond .eq 7, 3) := by decide +kernel
theorem dX8_count_126 : decode cX8_count 126 = .ok (.iconst 1, 1) := by decide +kernel
theorem dX8_count_127 : decode cX8_count 127 = .ok (.goto 4, 3) := by decide +kernel
theorem dX8_count_130 : decode cX8_count 130 = .ok (.iconst 0, 1) := by decide +kernel
theorem dX8_count_131 : decode cX8_count 131 = .ok (.ireturn, 1) := by decide +kernel
theorem dX8_count_132 : decode cX8_count 132 = .ok (.aload_n 0, 1) := by decide +kernel
theorem dX8_count_133 : decode cX8_count 133 = .ok (.getfield 12, 3) := by decide +kernel
theorem dX8_count_136 : decode cX8_count 136 = .ok (.getfield 116, 3) := by decide +kernel
theorem dX8_count_139 : decode cX8_count 139 = .ok (.ireturn, 1) := by decide +kernel
theorem dX8_count_140 : decode cX8_count 140 = .ok (.aload_n 0, 1) := by decide +kernel
theorem dX8_count_141 : decode cX8_count 141 = .ok (.getfield 12, 3) := by decide +kernel
theorem dX8_count_144 : decode cX8_count 144 = .ok (.getfield 156, 3) := by decide +kernel
theorem dX8_count_147 : decode cX8_count 147 = .ok (.ireturn, 1) := by decide +kernel
theorem dX8_count_148 : decode cX8_count 148 = .ok (.aload_n 0, 1) := by decide +kernel
theorem dX8_count_149 : decode cX8_count 149 = .ok (.getfield 52, 3) := by decide +kernel
theorem dX8_count_152 : decode cX8_count 152 = .ok (.getfield 159, 3) := by decide +kernel
theorem dX8_count_155 : decode cX8_count 155 = .ok (.ireturn, 1) := by decide +kernel
theorem dX8_count_156 : decode cX8_count 156 = .ok (.aload_n 0, 1) := by decide +kernel
theorem dX8_count_157 : decode cX8_count 157 = .ok (.getfield 25, 3) := by decide +kernel
theorem dX8_count_160 : decode cX8_count 160 = .ok (.getfield 162, 3) := by decide +kernel
theorem dX8_count_163 : decode cX8_count 163 = .ok (.ireturn, 1) := by decide +kernel
theorem dX8_count_164 : decode cX8_count 164 = .ok (.bipush (-2), 2) := by decide +kernel
theorem dX8_count_166 : decode cX8_count 166 = .ok (.ireturn, 1) := by decide +kernel
set_option maxRecDepth 20000 in
theorem ggX8_moves_X0_moveSet : GoodIn wsX8_moves wsX0_moveSet := goodIn_r _ [5, 6, 7, 8, 9, 10, 11, 12, 13, 14, 15, 16, 17, 3, 18, 19, 20, 21, 22, 23, 24, 33, 34, 35, 36, 37, 38, 39, 40, 41, 42, 43, 44, 45, 46, 47, 48] (by decide +kernel) (by decide +kernel)
set_option maxRecDepth 20000 in
theorem gX8_moves_X0_moveSet_n165 : GoodIn wsX8_moves (wsX0_moveSet) := ggX8_moves_X0_moveSet
theorem dX8_moves_0 : decode cX8_moves 0 = .ok (.aload_n 0, 1) := by decide +kernel
theorem dX8_moves_1 : decode cX8_moves 1 = .ok (.getfield 12, 3) := by decide +kernel
theorem dX8_moves_4 : decode cX8_moves 4 = .ok (.invokevirtual 165, 3) := by decide +kernel
theorem dX8_moves_7 : decode cX8_moves 7 = .ok (.ireturn, 1) := by decide +kernel
set_option maxRecDepth 20000 in
theorem ggX8_won_X0_isOver : GoodIn wsX8_won wsX0_isOver := goodIn_r _ [6, 7, 8, 9, 4, 10, 11, 12, 13, 14, 15, 16, 17, 18, 19, 20, 21, 22, 23, 24, 25, 26, 27, 28, 29, 94, 95, 96, 97, 98, 99, 100, 101, 102, 103, 104, 105, 106, 107, 108, 109] (by decide +kernel) (by decide +kernel)
set_option maxRecDepth 20000 in
theorem gX8_won_X0_isOver_n143 : GoodIn wsX8_won (wsX0_isOver) := ggX8_won_X0_isOver
set_option maxRecDepth 20000 in
theorem ggX8_won_X7_isWon : GoodIn wsX8_won wsX7_isWon := goodIn_r _ [33, 34, 35, 36, 31, 37, 38, 39, 40, 41, 42, 43, 44, 45, 46, 47, 48, 49, 50, 51, 52, 53, 54, 55, 56, 57, 58, 18, 59, 21, 4, 22, 23, 24, 25, 60, 61, 62, 63, 64, 65, 66, 67, 68, 69, 70, 71, 17, 19, 72, 73, 74, 75, 76, 77, 78, 79, 80, 81, 82, 83, 84, 85, 94, 95, 96, 97, 98, 99, 100, 101, 102, 103, 104, 105, 106, 107, 108, 109, 110, 111, 112, 113, 114, 115, 116, 117] (by decide +kernel) (by decide +kernel)
set_option maxRecDepth 20000 in
theorem gX8_won_X7_isWon_n168 : GoodIn wsX8_won (wsX7_isWon) := ggX8_won_X7_isWon
theorem dX8_won_0 : decode cX8_won 0 = .ok (.aload_n 0, 1) := by decide +kernel
theorem dX8_won_1 : decode cX8_won 1 = .ok (.getfield 12, 3) := by decide +kernel
theorem dX8_won_4 : decode cX8_won 4 = .ok (.invokevirtual 143, 3) := by decide +kernel
theorem dX8_won_7 : decode cX8_won 7 = .ok (.ifCond .eq 6, 3) := by decide +kernel
theorem dX8_won_10 : decode cX8_won 10 = .ok (.bipush (-5), 2) := by decide +kernel
theorem dX8_won_12 : decode cX8_won 12 = .ok (.ireturn, 1) := by decide +kernel
theorem dX8_won_13 : decode cX8_won 13 = .ok (.aload_n 0, 1) := by decide +kernel
theorem dX8_won_14 : decode cX8_won 14 = .ok (.getfield 38, 3) := by decide +kernel
theorem dX8_won_17 : decode cX8_won 17 = .ok (.aload_n 0, 1) := by decide +kernel
theorem dX8_won_18 : decode cX8_won 18 = .ok (.getfield 12, 3) := by decide +kernel
theorem dX8_won_21 : decode cX8_won 21 = .ok (.invokevirtual 168, 3) := by decide +kernel
theorem dX8_won_24 : decode cX8_won 24 = .ok (.ifCond .eq 7, 3) := by decide +kernel
theorem dX8_won_27 : decode cX8_won 27 = .ok (.iconst 1, 1) := by decide +kernel
theorem dX8_won_28 : decode cX8_won 28 = .ok (.goto 4, 3) := by decide +kernel
theorem dX8_won_31 : decode cX8_won 31 = .ok (.iconst 0, 1) := by decide +kernel
theorem dX8_won_32 : decode cX8_won 32 = .ok (.ireturn, 1) := by decide +kernel
set_option maxRecDepth 20000 in
theorem ggX8_winning_X0_isOver : GoodIn wsX8_winning wsX0_isOver := goodIn_r _ [6, 7, 8, 9, 4, 10, 11, 12, 13, 14, 15, 16, 17, 18, 19, 20, 21, 22, 23, 24, 25, 26, 27, 28, 29, 94, 95, 96, 97, 98, 99, 100, 101, 102, 103, 104, 105, 106, 107, 108, 109] (by decide +kernel) (by decide +kernel)
set_option maxRecDepth 20000 in
theorem gX8_winning_X0_isOver_n143 : GoodIn wsX8_winning (wsX0_isOver) := ggX8_winning_X0_isOver
set_option maxRecDepth 20000 in
theorem ggX8_winning_X7_winningMoves : GoodIn wsX8_winning wsX7_winningMoves := goodIn_r _ [33, 34, 35, 36, 31, 37, 38, 39, 40, 41, 42, 43, 44, 45, 46, 47, 48, 49, 50, 51, 52, 53, 54, 55, 56, 57, 58, 18, 59, 21, 4, 22, 23, 24, 25, 60, 61, 62, 63, 64, 17, 19, 65, 66, 67, 68, 69, 70, 71, 72, 73, 74, 75, 76, 77, 78, 79, 80, 81, 82, 83, 84, 85, 94, 95, 96, 97, 98, 99, 100, 101, 102, 103, 104, 105, 106, 107, 108, 109, 110, 111, 112, 113, 114, 115, 116, 117] (by decide +kernel) (by decide +kernel)
set_option maxRecDepth 20000 in
theorem gX8_winning_X7_winningMoves_n172 : GoodIn wsX8_winning (wsX7_winningMoves) := ggX8_winning_X7_winningMoves
theorem dX8_winning_0 : decode cX8_winning 0 = .ok (.aload_n 0, 1) := by decide +kernel
theorem dX8_winning_1 : decode cX8_winning 1 = .ok (.getfield 12, 3) := by decide +kernel
theorem dX8_winning_4 : decode cX8_winning 4 = .ok (.invokevirtual 143, 3) := by decide +kernel
theorem dX8_winning_7 : decode cX8_winning 7 = .ok (.ifCond .eq 8, 3) := by decide +kernel
theorem dX8_winning_10 : decode cX8_winning 10 = .ok (.bipush (-5), 2) := by decide +kernel
theorem dX8_winning_12 : decode cX8_winning 12 = .ok (.goto 14, 3) := by decide +kernel
theorem dX8_winning_15 : decode cX8_winning 15 = .ok (.aload_n 0, 1) := by decide +kernel
theorem dX8_winning_16 : decode cX8_winning 16 = .ok (.getfield 38, 3) := by decide +kernel
theorem dX8_winning_19 : decode cX8_winning 19 = .ok (.aload_n 0, 1) := by decide +kernel
theorem dX8_winning_20 : decode cX8_winning 20 = .ok (.getfield 12, 3) := by decide +kernel
theorem dX8_winning_23 : decode cX8_winning 23 = .ok (.invokevirtual 172, 3) := by decide +kernel
theorem dX8_winning_26 : decode cX8_winning 26 = .ok (.ireturn, 1) := by decide +kernel
set_option maxRecDepth 20000 in
theorem ggX8_value_X0_isOver : GoodIn wsX8_value wsX0_isOver := goodIn_r _ [6, 7, 8, 9, 4, 10, 11, 12, 13, 14, 15, 16, 17, 18, 19, 20, 21, 22, 23, 24, 25, 26, 27, 28, 29, 98, 99, 100, 101, 102, 103, 104, 105, 106, 107, 108, 109, 110, 111, 112, 113] (by decide +kernel) (by decide +kernel)
set_option maxRecDepth 20000 in
theorem gX8_value_X0_isOver_n143 : GoodIn wsX8_value (wsX0_isOver) := ggX8_value_X0_isOver
set_option maxRecDepth 20000 in
theorem ggX8_value_X7_difference : GoodIn wsX8_value wsX7_difference := goodIn_r _ [33, 34, 35, 36, 31, 37, 38, 39, 40, 41, 42, 43, 44, 45, 46, 47, 48, 49, 50, 51, 52, 53, 54, 55, 56, 57, 58, 18, 59, 21, 4, 22, 23, 24, 25, 60, 61, 62, 63, 64, 65, 66, 67, 68, 69, 70, 71, 72, 73, 74, 75, 17, 19, 76, 77, 78, 79, 80, 81, 82, 83, 84, 85, 86, 87, 88, 89, 98, 99, 100, 101, 102, 103, 104, 105, 106, 107, 108, 109, 110, 111, 112, 113, 114, 115, 116, 117, 118, 119, 120, 121] (by decide +kernel) (by decide +kernel)
set_option maxRecDepth 20000 in
theorem gX8_value_X7_difference_n176 : GoodIn wsX8_value (wsX7_difference) := ggX8_value_X7_difference
theorem dX8_value_0 : decode cX8_value 0 = .ok (.aload_n 0, 1) := by decide +kernel
theorem dX8_value_1 : decode cX8_value 1 = .ok (.getfield 12, 3) := by decide +kernel
theorem dX8_value_4 : decode cX8_value 4 = .ok (.invokevirtual 143, 3) := by decide +kernel
theorem dX8_value_7 : decode cX8_value 7 = .ok (.ifCond .eq 8, 3) := by decide +kernel
theorem dX8_value_10 : decode cX8_value 10 = .ok (.bipush (-5), 2) := by decide +kernel
theorem dX8_value_12 : decode cX8_value 12 = .ok (.goto 18, 3) := by decide +kernel
theorem dX8_value_15 : decode cX8_value 15 = .ok (.aload_n 0, 1) := by decide +kernel
theorem dX8_value_16 : decode cX8_value 16 = .ok (.getfield 38, 3) := by decide +kernel
theorem dX8_value_19 : decode cX8_value 19 = .ok (.aload_n 0, 1) := by decide +kernel
theorem dX8_value_20 : decode cX8_value 20 = .ok (.getfield 12, 3) := by decide +kernel
theorem dX8_value_23 : decode cX8_value 23 = .ok (.invokevirtual 176, 3) := by decide +kernel
theorem dX8_value_26 : decode cX8_value 26 = .ok (.sipush 1000, 3) := by decide +kernel
theorem dX8_value_29 : decode cX8_value 29 = .ok (.iadd, 1) := by decide +kernel
theorem dX8_value_30 : decode cX8_value 30 = .ok (.ireturn, 1) := by decide +kernel
set_option maxRecDepth 20000 in
theorem ggX8_best_X0_isOver : GoodIn wsX8_best wsX0_isOver := goodIn_r _ [6, 7, 8, 9, 4, 10, 11, 12, 13, 14, 15, 16, 17, 18, 19, 20, 21, 22, 23, 24, 25, 26, 27, 28, 29, 98, 99, 100, 101, 102, 103, 104, 105, 106, 107, 108, 109, 110, 111, 112, 113] (by decide +kernel) (by decide +kernel)
set_option maxRecDepth 20000 in
theorem gX8_best_X0_isOver_n143 : GoodIn wsX8_best (wsX0_isOver) := ggX8_best_X0_isOver
set_option maxRecDepth 20000 in
theorem ggX8_best_X7_bestMove : GoodIn wsX8_best wsX7_bestMove := goodIn_r _ [33, 34, 35, 36, 37, 31, 38, 39, 40, 41, 42, 43, 44, 45, 46, 47, 48, 49, 50, 51, 52, 53, 54, 55, 56, 57, 58, 18, 59, 21, 4, 22, 23, 24, 25, 60, 61, 62, 63, 64, 17, 19, 65, 66, 67, 68, 69, 70, 71, 72, 73, 74, 75, 76, 77, 78, 79, 80, 81, 82, 83, 84, 85, 86, 87, 88, 89, 98, 99, 100, 101, 102, 103, 104, 105, 106, 107, 108, 109, 110, 111, 112, 113, 114, 115, 116, 117, 118, 119, 120, 121] (by decide +kernel) (by decide +kernel)
set_option maxRecDepth 20000 in
theorem gX8_best_X7_bestMove_n179 : GoodIn wsX8_best (wsX7_bestMove) := ggX8_best_X7_bestMove
theorem dX8_best_0 : decode cX8_best 0 = .ok (.aload_n 0, 1) := by decide +kernel
theorem dX8_best_1 : decode cX8_best 1 = .ok (.getfield 12, 3) := by decide +kernel
theorem dX8_best_4 : decode cX8_best 4 = .ok (.invokevirtual 143, 3) := by decide +kernel
theorem dX8_best_7 : decode cX8_best 7 = .ok (.ifCond .eq 8, 3) := by decide +kernel
theorem dX8_best_10 : decode cX8_best 10 = .ok (.bipush (-5), 2) := by decide +kernel
theorem dX8_best_12 : decode cX8_best 12 = .ok (.goto 14, 3) := by decide +kernel
theorem dX8_best_15 : decode cX8_best 15 = .ok (.aload_n 0, 1) := by decide +kernel
theorem dX8_best_16 : decode cX8_best 16 = .ok (.getfield 38, 3) := by decide +kernel
theorem dX8_best_19 : decode cX8_best 19 = .ok (.aload_n 0, 1) := by decide +kernel
theorem dX8_best_20 : decode cX8_best 20 = .ok (.getfield 12, 3) := by decide +kernel
theorem dX8_best_23 : decode cX8_best 23 = .ok (.invokevirtual 179, 3) := by decide +kernel
theorem dX8_best_26 : decode cX8_best 26 = .ok (.ireturn, 1) := by decide +kernel
set_option maxRecDepth 20000 in
theorem ggX8_grundy_X5_nimber : GoodIn wsX8_grundy wsX5_nimber := goodIn_r _ [6, 7, 8, 9, 10, 4, 11, 12, 13, 14, 15, 16, 17, 18, 19, 20, 21, 22, 41, 42] (by decide +kernel) (by decide +kernel)
set_option maxRecDepth 20000 in
theorem gX8_grundy_X5_nimber_n119 : GoodIn wsX8_grundy (wsX5_nimber) := ggX8_grundy_X5_nimber
theorem dX8_grundy_0 : decode cX8_grundy 0 = .ok (.iload_n 1, 1) := by decide +kernel
theorem dX8_grundy_1 : decode cX8_grundy 1 = .ok (.ifCond .lt 10, 3) := by decide +kernel
theorem dX8_grundy_4 : decode cX8_grundy 4 = .ok (.iload_n 1, 1) := by decide +kernel
theorem dX8_grundy_5 : decode cX8_grundy 5 = .ok (.sipush 200, 3) := by decide +kernel
theorem dX8_grundy_8 : decode cX8_grundy 8 = .ok (.if_icmp .le 6, 3) := by decide +kernel
theorem dX8_grundy_11 : decode cX8_grundy 11 = .ok (.bipush (-2), 2) := by decide +kernel
theorem dX8_grundy_13 : decode cX8_grundy 13 = .ok (.ireturn, 1) := by decide +kernel
theorem dX8_grundy_14 : decode cX8_grundy 14 = .ok (.aload_n 0, 1) := by decide +kernel
theorem dX8_grundy_15 : decode cX8_grundy 15 = .ok (.getfield 45, 3) := by decide +kernel
theorem dX8_grundy_18 : decode cX8_grundy 18 = .ok (.aload_n 0, 1) := by decide +kernel
theorem dX8_grundy_19 : decode cX8_grundy 19 = .ok (.getfield 12, 3) := by decide +kernel
theorem dX8_grundy_22 : decode cX8_grundy 22 = .ok (.getfield 116, 3) := by decide +kernel
theorem dX8_grundy_25 : decode cX8_grundy 25 = .ok (.iload_n 1, 1) := by decide +kernel
theorem dX8_grundy_26 : decode cX8_grundy 26 = .ok (.invokevirtual 119, 3) := by decide +kernel
theorem dX8_grundy_29 : decode cX8_grundy 29 = .ok (.ireturn, 1) := by decide +kernel
set_option maxRecDepth 20000 in
theorem ggX8_undo_X1_takeBack : GoodIn wsX8_undo wsX1_takeBack := goodIn_r _ [6, 7, 8, 9, 10, 11, 12, 13, 14, 15, 16, 17, 18, 19, 20, 21, 22, 23, 24, 25, 26, 27, 28, 29, 30, 31, 32, 33, 34, 35, 36, 45, 46, 47, 48, 49, 50, 51, 52, 53, 54, 55, 56, 57, 58, 59, 60, 61, 62] (by decide +kernel) (by decide +kernel)
set_option maxRecDepth 20000 in
theorem gX8_undo_X1_takeBack_n209 : GoodIn wsX8_undo (wsX1_takeBack) := ggX8_undo_X1_takeBack
theorem dX8_undo_0 : decode cX8_undo 0 = .ok (.aload_n 0, 1) := by decide +kernel
theorem dX8_undo_1 : decode cX8_undo 1 = .ok (.getfield 25, 3) := by decide +kernel
theorem dX8_undo_4 : decode cX8_undo 4 = .ok (.aload_n 0, 1) := by decide +kernel
theorem dX8_undo_5 : decode cX8_undo 5 = .ok (.getfield 12, 3) := by decide +kernel
theorem dX8_undo_8 : decode cX8_undo 8 = .ok (.invokevirtual 209, 3) := by decide +kernel
theorem dX8_undo_11 : decode cX8_undo 11 = .ok (.ifCond .eq 13, 3) := by decide +kernel
theorem dX8_undo_14 : decode cX8_undo 14 = .ok (.aload_n 0, 1) := by decide +kernel
theorem dX8_undo_15 : decode cX8_undo 15 = .ok (.getfield 25, 3) := by decide +kernel
theorem dX8_undo_18 : decode cX8_undo 18 = .ok (.getfield 162, 3) := by decide +kernel
theorem dX8_undo_21 : decode cX8_undo 21 = .ok (.goto 5, 3) := by decide +kernel
theorem dX8_undo_24 : decode cX8_undo 24 = .ok (.bipush (-5), 2) := by decide +kernel
theorem dX8_undo_26 : decode cX8_undo 26 = .ok (.ireturn, 1) := by decide +kernel
set_option maxRecDepth 20000 in
theorem ggX8_save_X0_copyFrom : GoodIn wsX8_save wsX0_copyFrom := goodIn_r _ [6, 7, 8, 9, 10, 11, 12, 13, 14, 15, 16, 17, 18, 19, 20, 21, 22, 23, 24, 25, 26, 27, 28, 29, 30, 44, 45, 46, 47, 48, 49, 50, 51, 52, 53, 54, 55, 56, 57, 58, 59] (by decide +kernel) (by decide +kernel)
set_option maxRecDepth 20000 in
theorem gX8_save_X0_copyFrom_n57 : GoodIn wsX8_save (wsX0_copyFrom) := ggX8_save_X0_copyFrom
set_option maxRecDepth 20000 in
theorem ggX8_save_X0_tokenSum : GoodIn wsX8_save wsX0_tokenSum := goodIn_r _ [33, 9, 44, 45, 46, 47, 48, 49, 50, 51, 52, 53, 54, 55, 56, 57] (by decide +kernel) (by decide +kernel)
set_option maxRecDepth 20000 in
theorem gX8_save_X0_tokenSum_n79 : GoodIn wsX8_save (wsX0_tokenSum) := ggX8_save_X0_tokenSum
theorem dX8_save_0 : decode cX8_save 0 = .ok (.iload_n 1, 1) := by decide +kernel
theorem dX8_save_1 : decode cX8_save 1 = .ok (.ifCond .lt 12, 3) := by decide +kernel
theorem dX8_save_4 : decode cX8_save 4 = .ok (.iload_n 1, 1) := by decide +kernel
theorem dX8_save_5 : decode cX8_save 5 = .ok (.aload_n 0, 1) := by decide +kernel
theorem dX8_save_6 : decode cX8_save 6 = .ok (.getfield 31, 3) := by decide +kernel
theorem dX8_save_9 : decode cX8_save 9 = .ok (.arraylength, 1) := by decide +kernel
theorem dX8_save_10 : decode cX8_save 10 = .ok (.if_icmp .lt 6, 3) := by decide +kernel
theorem dX8_save_13 : decode cX8_save 13 = .ok (.bipush (-2), 2) := by decide +kernel
theorem dX8_save_15 : decode cX8_save 15 = .ok (.ireturn, 1) := by decide +kernel
theorem dX8_save_16 : decode cX8_save 16 = .ok (.aload_n 0, 1) := by decide +kernel
theorem dX8_save_17 : decode cX8_save 17 = .ok (.getfield 31, 3) := by decide +kernel
theorem dX8_save_20 : decode cX8_save 20 = .ok (.iload_n 1, 1) := by decide +kernel
theorem dX8_save_21 : decode cX8_save 21 = .ok (.aaload, 1) := by decide +kernel
theorem dX8_save_22 : decode cX8_save 22 = .ok (.getfield 212, 3) := by decide +kernel
theorem dX8_save_25 : decode cX8_save 25 = .ok (.aload_n 0, 1) := by decide +kernel
theorem dX8_save_26 : decode cX8_save 26 = .ok (.getfield 12, 3) := by decide +kernel
theorem dX8_save_29 : decode cX8_save 29 = .ok (.invokevirtual 57, 3) := by decide +kernel
theorem dX8_save_32 : decode cX8_save 32 = .ok (.aload_n 0, 1) := by decide +kernel
theorem dX8_save_33 : decode cX8_save 33 = .ok (.getfield 31, 3) := by decide +kernel
theorem dX8_save_36 : decode cX8_save 36 = .ok (.iload_n 1, 1) := by decide +kernel
theorem dX8_save_37 : decode cX8_save 37 = .ok (.aaload, 1) := by decide +kernel
theorem dX8_save_38 : decode cX8_save 38 = .ok (.iconst 1, 1) := by decide +kernel
theorem dX8_save_39 : decode cX8_save 39 = .ok (.putfield 215, 3) := by decide +kernel
theorem dX8_save_42 : decode cX8_save 42 = .ok (.aload_n 0, 1) := by decide +kernel
theorem dX8_save_43 : decode cX8_save 43 = .ok (.getfield 12, 3) := by decide +kernel
theorem dX8_save_46 : decode cX8_save 46 = .ok (.invokevirtual 79, 3) := by decide +kernel
theorem dX8_save_49 : decode cX8_save 49 = .ok (.ireturn, 1) := by decide +kernel
set_option maxRecDepth 20000 in
theorem ggX8_restore_X0_copyFrom : GoodIn wsX8_restore wsX0_copyFrom := goodIn_r _ [7, 8, 9, 10, 11, 12, 13, 14, 15, 16, 17, 18, 19, 20, 21, 22, 23, 24, 25, 26, 27, 28, 29, 30, 31, 61, 62, 63, 64, 65, 66, 67, 68, 69, 70, 71, 72, 73, 74, 75, 76] (by decide +kernel) (by decide +kernel)
set_option maxRecDepth 20000 in
theorem gX8_restore_X0_copyFrom_n57 : GoodIn wsX8_restore (wsX0_copyFrom) := ggX8_restore_X0_copyFrom
set_option maxRecDepth 20000 in
theorem ggX8_restore_X0_tokenSum : GoodIn wsX8_restore wsX0_tokenSum := goodIn_r _ [34, 10, 61, 62, 63, 64, 65, 66, 67, 68, 69, 70, 71, 72, 73, 74] (by decide +kernel) (by decide +kernel)
set_option maxRecDepth 20000 in
theorem gX8_restore_X0_tokenSum_n79 : GoodIn wsX8_restore (wsX0_tokenSum) := ggX8_restore_X0_tokenSum
set_option maxRecDepth 20000 in
theorem ggX8_restore_X8_recorded : GoodIn wsX8_restore wsX8_recorded := goodIn_r _ [39, 40, 2, 41, 42, 43, 44, 45, 46, 47, 48, 49, 50, 4, 5, 6, 7, 8, 9, 10, 11, 12, 13, 14, 15, 16, 17, 18, 19, 20, 21, 22, 23, 24, 25, 26, 27, 28, 29, 30, 31, 51, 52, 53, 54, 55, 56, 57, 58, 77, 78, 61, 62, 63, 64, 65, 66, 67, 68, 69, 70, 71, 72, 73, 74, 75, 76] (by decide +kernel) (by decide +kernel)
set_option maxRecDepth 20000 in
theorem gX8_restore_X8_recorded : GoodIn wsX8_restore (wsV RX8 65 RX8 yX8_recorded wsX8_recorded) := goodIn_app (goodIn_of _ (by decide +kernel)) ggX8_restore_X8_recorded
theorem dX8_restore_0 : decode cX8_restore 0 = .ok (.iload_n 1, 1) := by decide +kernel
theorem dX8_restore_1 : decode cX8_restore 1 = .ok (.ifCond .lt 12, 3) := by decide +kernel
theorem dX8_restore_4 : decode cX8_restore 4 = .ok (.iload_n 1, 1) := by decide +kernel
theorem dX8_restore_5 : decode cX8_restore 5 = .ok (.aload_n 0, 1) := by decide +kernel
theorem dX8_restore_6 : decode cX8_restore 6 = .ok (.getfield 31, 3) := by decide +kernel
theorem dX8_restore_9 : decode cX8_restore 9 = .ok (.arraylength, 1) := by decide +kernel
theorem dX8_restore_10 : decode cX8_restore 10 = .ok (.if_icmp .lt 6, 3) := by decide +kernel
theorem dX8_restore_13 : decode cX8_restore 13 = .ok (.bipush (-2), 2) := by decide +kernel
theorem dX8_restore_15 : decode cX8_restore 15 = .ok (.ireturn, 1) := by decide +kernel
theorem dX8_restore_16 : decode cX8_restore 16 = .ok (.aload_n 0, 1) := by decide +kernel
theorem dX8_restore_17 : decode cX8_restore 17 = .ok (.getfield 31, 3) := by decide +kernel
theorem dX8_restore_20 : decode cX8_restore 20 = .ok (.iload_n 1, 1) := by decide +kernel
theorem dX8_restore_21 : decode cX8_restore 21 = .ok (.aaload, 1) := by decide +kernel
theorem dX8_restore_22 : decode cX8_restore 22 = .ok (.getfield 215, 3) := by decide +kernel
theorem dX8_restore_25 : decode cX8_restore 25 = .ok (.ifCond .ne 6, 3) := by decide +kernel
theorem dX8_restore_28 : decode cX8_restore 28 = .ok (.bipush (-5), 2) := by decide +kernel
theorem dX8_restore_30 : decode cX8_restore 30 = .ok (.ireturn, 1) := by decide +kernel
theorem dX8_restore_31 : decode cX8_restore 31 = .ok (.aload_n 0, 1) := by decide +kernel
theorem dX8_restore_32 : decode cX8_restore 32 = .ok (.getfield 16, 3) := by decide +kernel
theorem dX8_restore_35 : decode cX8_restore 35 = .ok (.aload_n 0, 1) := by decide +kernel
theorem dX8_restore_36 : decode cX8_restore 36 = .ok (.getfield 12, 3) := by decide +kernel
theorem dX8_restore_39 : decode cX8_restore 39 = .ok (.invokevirtual 57, 3) := by decide +kernel
theorem dX8_restore_42 : decode cX8_restore 42 = .ok (.aload_n 0, 1) := by decide +kernel
theorem dX8_restore_43 : decode cX8_restore 43 = .ok (.getfield 12, 3) := by decide +kernel
theorem dX8_restore_46 : decode cX8_restore 46 = .ok (.aload_n 0, 1) := by decide +kernel
theorem dX8_restore_47 : decode cX8_restore 47 = .ok (.getfield 31, 3) := by decide +kernel
theorem dX8_restore_50 : decode cX8_restore 50 = .ok (.iload_n 1, 1) := by decide +kernel
theorem dX8_restore_51 : decode cX8_restore 51 = .ok (.aaload, 1) := by decide +kernel
theorem dX8_restore_52 : decode cX8_restore 52 = .ok (.getfield 212, 3) := by decide +kernel
theorem dX8_restore_55 : decode cX8_restore 55 = .ok (.invokevirtual 57, 3) := by decide +kernel
theorem dX8_restore_58 : decode cX8_restore 58 = .ok (.aload_n 0, 1) := by decide +kernel
theorem dX8_restore_59 : decode cX8_restore 59 = .ok (.aload_n 0, 1) := by decide +kernel
theorem dX8_restore_60 : decode cX8_restore 60 = .ok (.getfield 12, 3) := by decide +kernel
theorem dX8_restore_63 : decode cX8_restore 63 = .ok (.invokevirtual 79, 3) := by decide +kernel
theorem dX8_restore_66 : decode cX8_restore 66 = .ok (.invokevirtual 65, 3) := by decide +kernel
theorem dX8_restore_69 : decode cX8_restore 69 = .ok (.ireturn, 1) := by decide +kernel
set_option maxRecDepth 20000 in
theorem ggX8_recorded_X1_add : GoodIn wsX8_recorded wsX1_add := goodIn_r _ [6, 7, 8, 9, 10, 11, 4, 12, 13, 14, 15, 16, 17, 18, 19, 20, 21, 22, 23, 24, 25, 26, 27, 28, 29, 30, 31, 32, 33, 34, 35, 36, 37, 38, 39, 40, 49, 50, 51, 52, 53, 54, 55, 56, 57, 58, 59, 60, 61, 62, 63, 64, 65, 66] (by decide +kernel) (by decide +kernel)
set_option maxRecDepth 20000 in
theorem gX8_recorded_X1_add_n218 : GoodIn wsX8_recorded (wsX1_add) := ggX8_recorded_X1_add
theorem dX8_recorded_0 : decode cX8_recorded 0 = .ok (.iload_n 1, 1) := by decide +kernel
theorem dX8_recorded_1 : decode cX8_recorded 1 = .ok (.ifCond .lt 14, 3) := by decide +kernel
theorem dX8_recorded_4 : decode cX8_recorded 4 = .ok (.aload_n 0, 1) := by decide +kernel
theorem dX8_recorded_5 : decode cX8_recorded 5 = .ok (.getfield 25, 3) := by decide +kernel
theorem dX8_recorded_8 : decode cX8_recorded 8 = .ok (.aload_n 0, 1) := by decide +kernel
theorem dX8_recorded_9 : decode cX8_recorded 9 = .ok (.getfield 16, 3) := by decide +kernel
theorem dX8_recorded_12 : decode cX8_recorded 12 = .ok (.invokevirtual 218, 3) := by decide +kernel
theorem dX8_recorded_15 : decode cX8_recorded 15 = .ok (.iload_n 1, 1) := by decide +kernel
theorem dX8_recorded_16 : decode cX8_recorded 16 = .ok (.ireturn, 1) := by decide +kernel
theorem dX8_changeSetting_0 : decode cX8_changeSetting 0 = .ok (.iload_n 1, 1) := by decide +kernel
theorem dX8_changeSetting_1 : decode cX8_changeSetting 1 = .ok (.ifCond .ne 32, 3) := by decide +kernel
theorem dX8_changeSetting_4 : decode cX8_changeSetting 4 = .ok (.iload_n 2, 1) := by decide +kernel
theorem dX8_changeSetting_5 : decode cX8_changeSetting 5 = .ok (.iconst 1, 1) := by decide +kernel
theorem dX8_changeSetting_6 : decode cX8_changeSetting 6 = .ok (.if_icmp .lt 27, 3) := by decide +kernel
theorem dX8_changeSetting_9 : decode cX8_changeSetting 9 = .ok (.iload_n 2, 1) := by decide +kernel
theorem dX8_changeSetting_10 : decode cX8_changeSetting 10 = .ok (.bipush 31, 2) := by decide +kernel
theorem dX8_changeSetting_12 : decode cX8_changeSetting 12 = .ok (.if_icmp .gt 21, 3) := by decide +kernel
theorem dX8_changeSetting_15 : decode cX8_changeSetting 15 = .ok (.aload_n 0, 1) := by decide +kernel
theorem dX8_changeSetting_16 : decode cX8_changeSetting 16 = .ok (.getfield 12, 3) := by decide +kernel
theorem dX8_changeSetting_19 : decode cX8_changeSetting 19 = .ok (.getfield 116, 3) := by decide +kernel
theorem dX8_changeSetting_22 : decode cX8_changeSetting 22 = .ok (.istore_n 3, 1) := by decide +kernel
theorem dX8_changeSetting_23 : decode cX8_changeSetting 23 = .ok (.aload_n 0, 1) := by decide +kernel
theorem dX8_changeSetting_24 : decode cX8_changeSetting 24 = .ok (.getfield 12, 3) := by decide +kernel
theorem dX8_changeSetting_27 : decode cX8_changeSetting 27 = .ok (.iload_n 2, 1) := by decide +kernel
theorem dX8_changeSetting_28 : decode cX8_changeSetting 28 = .ok (.putfield 116, 3) := by decide +kernel
theorem dX8_changeSetting_31 : decode cX8_changeSetting 31 = .ok (.iload_n 3, 1) := by decide +kernel
theorem dX8_changeSetting_32 : decode cX8_changeSetting 32 = .ok (.ireturn, 1) := by decide +kernel
theorem dX8_changeSetting_33 : decode cX8_changeSetting 33 = .ok (.iload_n 1, 1) := by decide +kernel
theorem dX8_changeSetting_34 : decode cX8_changeSetting 34 = .ok (.iconst 1, 1) := by decide +kernel
theorem dX8_changeSetting_35 : decode cX8_changeSetting 35 = .ok (.if_icmp .ne 31, 3) := by decide +kernel
theorem dX8_changeSetting_38 : decode cX8_changeSetting 38 = .ok (.iload_n 2, 1) := by decide +kernel
theorem dX8_changeSetting_39 : decode cX8_changeSetting 39 = .ok (.ifCond .lt 27, 3) := by decide +kernel
theorem dX8_changeSetting_42 : decode cX8_changeSetting 42 = .ok (.iload_n 2, 1) := by decide +kernel
theorem dX8_changeSetting_43 : decode cX8_changeSetting 43 = .ok (.bipush 99, 2) := by decide +kernel
theorem dX8_changeSetting_45 : decode cX8_changeSetting 45 = .ok (.if_icmp .gt 21, 3) := by decide +kernel
theorem dX8_changeSetting_48 : decode cX8_changeSetting 48 = .ok (.aload_n 0, 1) := by decide +kernel
theorem dX8_changeSetting_49 : decode cX8_changeSetting 49 = .ok (.getfield 12, 3) := by decide +kernel
theorem dX8_changeSetting_52 : decode cX8_changeSetting 52 = .ok (.getfield 156, 3) := by decide +kernel
theorem dX8_changeSetting_55 : decode cX8_changeSetting 55 = .ok (.istore_n 3, 1) := by decide +kernel
theorem dX8_changeSetting_56 : decode cX8_changeSetting 56 = .ok (.aload_n 0, 1) := by decide +kernel
theorem dX8_changeSetting_57 : decode cX8_changeSetting 57 = .ok (.getfield 12, 3) := by decide +kernel
theorem dX8_changeSetting_60 : decode cX8_changeSetting 60 = .ok (.iload_n 2, 1) := by decide +kernel
theorem dX8_changeSetting_61 : decode cX8_changeSetting 61 = .ok (.putfield 156, 3) := by decide +kernel
theorem dX8_changeSetting_64 : decode cX8_changeSetting 64 = .ok (.iload_n 3, 1) := by decide +kernel
theorem dX8_changeSetting_65 : decode cX8_changeSetting 65 = .ok (.ireturn, 1) := by decide +kernel
theorem dX8_changeSetting_66 : decode cX8_changeSetting 66 = .ok (.bipush (-2), 2) := by decide +kernel
theorem dX8_changeSetting_68 : decode cX8_changeSetting 68 = .ok (.ireturn, 1) := by decide +kernel
set_option maxRecDepth 20000 in
theorem ggX8_addPile_X3_fill : GoodIn wsX8_addPile wsX3_fill := goodIn_r _ [5, 6, 7, 8, 9, 28, 29, 30, 31] (by decide +kernel) (by decide +kernel)
set_option maxRecDepth 20000 in
theorem gX8_addPile_X3_fill_n221 : GoodIn wsX8_addPile (wsX3_fill) := ggX8_addPile_X3_fill
theorem dX8_addPile_0 : decode cX8_addPile 0 = .ok (.iload_n 1, 1) := by decide +kernel
theorem dX8_addPile_1 : decode cX8_addPile 1 = .ok (.ifCond .lt 18, 3) := by decide +kernel
theorem dX8_addPile_4 : decode cX8_addPile 4 = .ok (.iload_n 1, 1) := by decide +kernel
theorem dX8_addPile_5 : decode cX8_addPile 5 = .ok (.iconst 5, 1) := by decide +kernel
theorem dX8_addPile_6 : decode cX8_addPile 6 = .ok (.if_icmp .gt 13, 3) := by decide +kernel
theorem dX8_addPile_9 : decode cX8_addPile 9 = .ok (.iload_n 2, 1) := by decide +kernel
theorem dX8_addPile_10 : decode cX8_addPile 10 = .ok (.ifCond .lt 9, 3) := by decide +kernel
theorem dX8_addPile_13 : decode cX8_addPile 13 = .ok (.iload_n 2, 1) := by decide +kernel
theorem dX8_addPile_14 : decode cX8_addPile 14 = .ok (.bipush 9, 2) := by decide +kernel
theorem dX8_addPile_16 : decode cX8_addPile 16 = .ok (.if_icmp .le 6, 3) := by decide +kernel
theorem dX8_addPile_19 : decode cX8_addPile 19 = .ok (.bipush (-2), 2) := by decide +kernel
theorem dX8_addPile_21 : decode cX8_addPile 21 = .ok (.ireturn, 1) := by decide +kernel
theorem dX8_addPile_22 : decode cX8_addPile 22 = .ok (.iload_n 3, 1) := by decide +kernel
theorem dX8_addPile_23 : decode cX8_addPile 23 = .ok (.ifCond .eq 11, 3) := by decide +kernel
theorem dX8_addPile_26 : decode cX8_addPile 26 = .ok (.iload_n 3, 1) := by decide +kernel
theorem dX8_addPile_27 : decode cX8_addPile 27 = .ok (.iconst 1, 1) := by decide +kernel
theorem dX8_addPile_28 : decode cX8_addPile 28 = .ok (.if_icmp .eq 6, 3) := by decide +kernel
theorem dX8_addPile_31 : decode cX8_addPile 31 = .ok (.bipush (-2), 2) := by decide +kernel
theorem dX8_addPile_33 : decode cX8_addPile 33 = .ok (.ireturn, 1) := by decide +kernel
theorem dX8_addPile_34 : decode cX8_addPile 34 = .ok (.aload_n 0, 1) := by decide +kernel
theorem dX8_addPile_35 : decode cX8_addPile 35 = .ok (.getfield 12, 3) := by decide +kernel
theorem dX8_addPile_38 : decode cX8_addPile 38 = .ok (.getfield 137, 3) := by decide +kernel
theorem dX8_addPile_41 : decode cX8_addPile 41 = .ok (.istore 4, 2) := by decide +kernel
theorem dX8_addPile_43 : decode cX8_addPile 43 = .ok (.iload 4, 2) := by decide +kernel
theorem dX8_addPile_45 : decode cX8_addPile 45 = .ok (.ifCond .lt 16, 3) := by decide +kernel
theorem dX8_addPile_48 : decode cX8_addPile 48 = .ok (.iload 4, 2) := by decide +kernel
theorem dX8_addPile_50 : decode cX8_addPile 50 = .ok (.aload_n 0, 1) := by decide +kernel
theorem dX8_addPile_51 : decode cX8_addPile 51 = .ok (.getfield 12, 3) := by decide +kernel
theorem dX8_addPile_54 : decode cX8_addPile 54 = .ok (.getfield 96, 3) := by decide +kernel
theorem dX8_addPile_57 : decode cX8_addPile 57 = .ok (.arraylength, 1) := by decide +kernel
theorem dX8_addPile_58 : decode cX8_addPile 58 = .ok (.if_icmp .lt 6, 3) := by decide +kernel
theorem dX8_addPile_61 : decode cX8_addPile 61 = .ok (.bipush (-4), 2) := by decide +kernel
theorem dX8_addPile_63 : decode cX8_addPile 63 = .ok (.ireturn, 1) := by decide +kernel
theorem dX8_addPile_64 : decode cX8_addPile 64 = .ok (.aload_n 0, 1) := by decide +kernel
theorem dX8_addPile_65 : decode cX8_addPile 65 = .ok (.getfield 12, 3) := by decide +kernel
theorem dX8_addPile_68 : decode cX8_addPile 68 = .ok (.getfield 96, 3) := by decide +kernel
theorem dX8_addPile_71 : decode cX8_addPile 71 = .ok (.iload 4, 2) := by decide +kernel
theorem dX8_addPile_73 : decode cX8_addPile 73 = .ok (.aaload, 1) := by decide +kernel
theorem dX8_addPile_74 : decode cX8_addPile 74 = .ok (.iload_n 1, 1) := by decide +kernel
theorem dX8_addPile_75 : decode cX8_addPile 75 = .ok (.iload_n 2, 1) := by decide +kernel
theorem dX8_addPile_76 : decode cX8_addPile 76 = .ok (.iload_n 3, 1) := by decide +kernel
theorem dX8_addPile_77 : decode cX8_addPile 77 = .ok (.iconst 1, 1) := by decide +kernel
theorem dX8_addPile_78 : decode cX8_addPile 78 = .ok (.if_icmp .ne 7, 3) := by decide +kernel
theorem dX8_addPile_81 : decode cX8_addPile 81 = .ok (.iconst 1, 1) := by decide +kernel
theorem dX8_addPile_82 : decode cX8_addPile 82 = .ok (.goto 4, 3) := by decide +kernel
theorem dX8_addPile_85 : decode cX8_addPile 85 = .ok (.iconst 0, 1) := by decide +kernel
theorem dX8_addPile_86 : decode cX8_addPile 86 = .ok (.invokevirtual 221, 3) := by decide +kernel
theorem dX8_addPile_89 : decode cX8_addPile 89 = .ok (.aload_n 0, 1) := by decide +kernel
theorem dX8_addPile_90 : decode cX8_addPile 90 = .ok (.getfield 12, 3) := by decide +kernel
theorem dX8_addPile_93 : decode cX8_addPile 93 = .ok (.iload 4, 2) := by decide +kernel
theorem dX8_addPile_95 : decode cX8_addPile 95 = .ok (.iconst 1, 1) := by decide +kernel
theorem dX8_addPile_96 : decode cX8_addPile 96 = .ok (.iadd, 1) := by decide +kernel
theorem dX8_addPile_97 : decode cX8_addPile 97 = .ok (.putfield 137, 3) := by decide +kernel
theorem dX8_addPile_100 : decode cX8_addPile 100 = .ok (.iload 4, 2) := by decide +kernel
theorem dX8_addPile_102 : decode cX8_addPile 102 = .ok (.ireturn, 1) := by decide +kernel
theorem dX8_givePasses_0 : decode cX8_givePasses 0 = .ok (.iload_n 1, 1) := by decide +kernel
theorem dX8_givePasses_1 : decode cX8_givePasses 1 = .ok (.ifCond .lt 17, 3) := by decide +kernel
theorem dX8_givePasses_4 : decode cX8_givePasses 4 = .ok (.iload_n 1, 1) := by decide +kernel
theorem dX8_givePasses_5 : decode cX8_givePasses 5 = .ok (.iconst 2, 1) := by decide +kernel
theorem dX8_givePasses_6 : decode cX8_givePasses 6 = .ok (.if_icmp .gt 12, 3) := by decide +kernel
theorem dX8_givePasses_9 : decode cX8_givePasses 9 = .ok (.iload_n 2, 1) := by decide +kernel
theorem dX8_givePasses_10 : decode cX8_givePasses 10 = .ok (.ifCond .lt 8, 3) := by decide +kernel
theorem dX8_givePasses_13 : decode cX8_givePasses 13 = .ok (.iload_n 2, 1) := by decide +kernel
theorem dX8_givePasses_14 : decode cX8_givePasses 14 = .ok (.iconst 2, 1) := by decide +kernel
theorem dX8_givePasses_15 : decode cX8_givePasses 15 = .ok (.if_icmp .le 6, 3) := by decide +kernel
theorem dX8_givePasses_18 : decode cX8_givePasses 18 = .ok (.bipush (-2), 2) := by decide +kernel
theorem dX8_givePasses_20 : decode cX8_givePasses 20 = .ok (.ireturn, 1) := by decide +kernel
theorem dX8_givePasses_21 : decode cX8_givePasses 21 = .ok (.aload_n 0, 1) := by decide +kernel
theorem dX8_givePasses_22 : decode cX8_givePasses 22 = .ok (.getfield 12, 3) := by decide +kernel
theorem dX8_givePasses_25 : decode cX8_givePasses 25 = .ok (.getfield 225, 3) := by decide +kernel
theorem dX8_givePasses_28 : decode cX8_givePasses 28 = .ok (.getfield 131, 3) := by decide +kernel
theorem dX8_givePasses_31 : decode cX8_givePasses 31 = .ok (.aload_n 0, 1) := by decide +kernel
theorem dX8_givePasses_32 : decode cX8_givePasses 32 = .ok (.getfield 12, 3) := by decide +kernel
theorem dX8_givePasses_35 : decode cX8_givePasses 35 = .ok (.getfield 229, 3) := by decide +kernel
theorem dX8_givePasses_38 : decode cX8_givePasses 38 = .ok (.getfield 131, 3) := by decide +kernel
theorem dX8_givePasses_41 : decode cX8_givePasses 41 = .ok (.iadd, 1) := by decide +kernel
theorem dX8_givePasses_42 : decode cX8_givePasses 42 = .ok (.istore_n 3, 1) := by decide +kernel
theorem dX8_givePasses_43 : decode cX8_givePasses 43 = .ok (.aload_n 0, 1) := by decide +kernel
theorem dX8_givePasses_44 : decode cX8_givePasses 44 = .ok (.getfield 12, 3) := by decide +kernel
theorem dX8_givePasses_47 : decode cX8_givePasses 47 = .ok (.getfield 225, 3) := by decide +kernel
theorem dX8_givePasses_50 : decode cX8_givePasses 50 = .ok (.iload_n 1, 1) := by decide +kernel
theorem dX8_givePasses_51 : decode cX8_givePasses 51 = .ok (.putfield 131, 3) := by decide +kernel
theorem dX8_givePasses_54 : decode cX8_givePasses 54 = .ok (.aload_n 0, 1) := by decide +kernel
theorem dX8_givePasses_55 : decode cX8_givePasses 55 = .ok (.getfield 12, 3) := by decide +kernel
theorem dX8_givePasses_58 : decode cX8_givePasses 58 = .ok (.getfield 229, 3) := by decide +kernel
theorem dX8_givePasses_61 : decode cX8_givePasses 61 = .ok (.iload_n 2, 1) := by decide +kernel
theorem dX8_givePasses_62 : decode cX8_givePasses 62 = .ok (.putfield 131, 3) := by decide +kernel
theorem dX8_givePasses_65 : decode cX8_givePasses 65 = .ok (.iload_n 3, 1) := by decide +kernel
theorem dX8_givePasses_66 : decode cX8_givePasses 66 = .ok (.ireturn, 1) := by decide +kernel
set_option maxRecDepth 20000 in
theorem ggX8_takeTokens_X0_hasPile : GoodIn wsX8_takeTokens wsX0_hasPile := goodIn_r _ [5, 6, 7, 55, 56, 57, 58, 59, 60, 61, 62, 63, 64] (by decide +kernel) (by decide +kernel)
set_option maxRecDepth 20000 in
theorem gX8_takeTokens_X0_hasPile_n92 : GoodIn wsX8_takeTokens (wsX0_hasPile) := ggX8_takeTokens_X0_hasPile
set_option maxRecDepth 20000 in
theorem ggX8_takeTokens_X8_takeMove : GoodIn wsX8_takeTokens wsX8_takeMove := goodIn_r _ [11] (by decide +kernel) (by decide +kernel)
set_option maxRecDepth 20000 in
theorem gX8_takeTokens_X8_takeMove : GoodIn wsX8_takeTokens (va_wsS RX8 232 yX8_takeMove wsX8_takeMove) := goodIn_app (goodIn_of _ (by decide +kernel)) ggX8_takeTokens_X8_takeMove
set_option maxRecDepth 20000 in
theorem ggX8_takeTokens_X0_allows : GoodIn wsX8_takeTokens wsX0_allows := goodIn_r _ [14, 15, 16, 17, 3, 18, 19, 7, 20, 21, 22, 23, 24, 10, 25, 26, 27, 28, 29, 30, 31, 32, 33, 34, 35, 36, 37, 55, 56, 57, 58, 59, 60, 61, 62, 63, 64, 65, 66, 67, 68, 69, 70] (by decide +kernel) (by decide +kernel)
set_option maxRecDepth 20000 in
theorem gX8_takeTokens_X0_allows_n235 : GoodIn wsX8_takeTokens (wsX0_allows) := ggX8_takeTokens_X0_allows
set_option maxRecDepth 20000 in
theorem ggX8_takeTokens_X0_takeFrom : GoodIn wsX8_takeTokens wsX0_takeFrom := goodIn_r _ [40, 7, 21, 19, 41, 2, 4, 3, 5, 6, 26, 27, 28, 29, 30, 31, 42, 43, 44, 45, 22, 46, 55, 56, 57, 58, 59, 60, 61, 62, 63, 64, 65, 66, 67, 68, 69, 70] (by decide +kernel) (by decide +kernel)
set_option maxRecDepth 20000 in
theorem gX8_takeTokens_X0_takeFrom_n238 : GoodIn wsX8_takeTokens (wsX0_takeFrom) := ggX8_takeTokens_X0_takeFrom
theorem dX8_takeTokens_0 : decode cX8_takeTokens 0 = .ok (.aload_n 0, 1) := by decide +kernel
theorem dX8_takeTokens_1 : decode cX8_takeTokens 1 = .ok (.getfield 12, 3) := by decide +kernel
theorem dX8_takeTokens_4 : decode cX8_takeTokens 4 = .ok (.iload_n 1, 1) := by decide +kernel
theorem dX8_takeTokens_5 : decode cX8_takeTokens 5 = .ok (.invokevirtual 92, 3) := by decide +kernel
theorem dX8_takeTokens_8 : decode cX8_takeTokens 8 = .ok (.ifCond .ne 5, 3) := by decide +kernel
theorem dX8_takeTokens_11 : decode cX8_takeTokens 11 = .ok (.iconst (-1), 1) := by decide +kernel
theorem dX8_takeTokens_12 : decode cX8_takeTokens 12 = .ok (.ireturn, 1) := by decide +kernel
theorem dX8_takeTokens_13 : decode cX8_takeTokens 13 = .ok (.iload_n 2, 1) := by decide +kernel
theorem dX8_takeTokens_14 : decode cX8_takeTokens 14 = .ok (.iconst 1, 1) := by decide +kernel
theorem dX8_takeTokens_15 : decode cX8_takeTokens 15 = .ok (.if_icmp .lt 23, 3) := by decide +kernel
theorem dX8_takeTokens_18 : decode cX8_takeTokens 18 = .ok (.iload_n 2, 1) := by decide +kernel
theorem dX8_takeTokens_19 : decode cX8_takeTokens 19 = .ok (.iconst 5, 1) := by decide +kernel
theorem dX8_takeTokens_20 : decode cX8_takeTokens 20 = .ok (.if_icmp .gt 18, 3) := by decide +kernel
theorem dX8_takeTokens_23 : decode cX8_takeTokens 23 = .ok (.aload_n 0, 1) := by decide +kernel
theorem dX8_takeTokens_24 : decode cX8_takeTokens 24 = .ok (.getfield 12, 3) := by decide +kernel
theorem dX8_takeTokens_27 : decode cX8_takeTokens 27 = .ok (.iload_n 1, 1) := by decide +kernel
theorem dX8_takeTokens_28 : decode cX8_takeTokens 28 = .ok (.iload_n 2, 1) := by decide +kernel
theorem dX8_takeTokens_29 : decode cX8_takeTokens 29 = .ok (.invokestatic 232, 3) := by decide +kernel
theorem dX8_takeTokens_32 : decode cX8_takeTokens 32 = .ok (.invokevirtual 235, 3) := by decide +kernel
theorem dX8_takeTokens_35 : decode cX8_takeTokens 35 = .ok (.ifCond .ne 6, 3) := by decide +kernel
theorem dX8_takeTokens_38 : decode cX8_takeTokens 38 = .ok (.bipush (-5), 2) := by decide +kernel
theorem dX8_takeTokens_40 : decode cX8_takeTokens 40 = .ok (.ireturn, 1) := by decide +kernel
theorem dX8_takeTokens_41 : decode cX8_takeTokens 41 = .ok (.aload_n 0, 1) := by decide +kernel
theorem dX8_takeTokens_42 : decode cX8_takeTokens 42 = .ok (.getfield 12, 3) := by decide +kernel
theorem dX8_takeTokens_45 : decode cX8_takeTokens 45 = .ok (.iload_n 1, 1) := by decide +kernel
theorem dX8_takeTokens_46 : decode cX8_takeTokens 46 = .ok (.iload_n 2, 1) := by decide +kernel
theorem dX8_takeTokens_47 : decode cX8_takeTokens 47 = .ok (.invokevirtual 238, 3) := by decide +kernel
theorem dX8_takeTokens_50 : decode cX8_takeTokens 50 = .ok (.ireturn, 1) := by decide +kernel
set_option maxRecDepth 20000 in
theorem ggX8_usePass_X0_allows : GoodIn wsX8_usePass wsX0_allows := goodIn_r _ [5, 6, 7, 8, 3, 9, 10, 11, 12, 13, 14, 15, 16, 17, 18, 19, 20, 21, 22, 23, 24, 25, 26, 27, 28, 29, 30, 47, 48, 49, 50, 51, 52, 53, 54, 55, 56, 57, 58, 59, 60, 61, 62] (by decide +kernel) (by decide +kernel)
set_option maxRecDepth 20000 in
theorem gX8_usePass_X0_allows_n235 : GoodIn wsX8_usePass (wsX0_allows) := ggX8_usePass_X0_allows
set_option maxRecDepth 20000 in
theorem ggX8_usePass_X0_usePass : GoodIn wsX8_usePass wsX0_usePass := goodIn_r _ [33, 13, 19, 20, 21, 3, 22, 23, 24, 34, 35, 36, 37, 14, 38, 47, 48, 49, 50, 51, 52, 53, 54, 55, 56, 61, 62] (by decide +kernel) (by decide +kernel)
set_option maxRecDepth 20000 in
theorem gX8_usePass_X0_usePass_n241 : GoodIn wsX8_usePass (wsX0_usePass) := ggX8_usePass_X0_usePass
theorem dX8_usePass_0 : decode cX8_usePass 0 = .ok (.aload_n 0, 1) := by decide +kernel
theorem dX8_usePass_1 : decode cX8_usePass 1 = .ok (.getfield 12, 3) := by decide +kernel
theorem dX8_usePass_4 : decode cX8_usePass 4 = .ok (.bipush 20, 2) := by decide +kernel
theorem dX8_usePass_6 : decode cX8_usePass 6 = .ok (.invokevirtual 235, 3) := by decide +kernel
theorem dX8_usePass_9 : decode cX8_usePass 9 = .ok (.ifCond .eq 13, 3) := by decide +kernel
theorem dX8_usePass_12 : decode cX8_usePass 12 = .ok (.aload_n 0, 1) := by decide +kernel
theorem dX8_usePass_13 : decode cX8_usePass 13 = .ok (.getfield 12, 3) := by decide +kernel
theorem dX8_usePass_16 : decode cX8_usePass 16 = .ok (.invokevirtual 241, 3) := by decide +kernel
theorem dX8_usePass_19 : decode cX8_usePass 19 = .ok (.goto 5, 3) := by decide +kernel
theorem dX8_usePass_22 : decode cX8_usePass 22 = .ok (.bipush (-5), 2) := by decide +kernel
theorem dX8_usePass_24 : decode cX8_usePass 24 = .ok (.ireturn, 1) := by decide +kernel
set_option maxRecDepth 20000 in
theorem ggX8_playOn_X0_isOver : GoodIn wsX8_playOn wsX0_isOver := goodIn_r _ [6, 7, 8, 9, 4, 10, 11, 12, 13, 14, 15, 16, 17, 18, 19, 20, 21, 22, 23, 24, 25, 26, 27, 28, 29, 123, 124, 125, 126, 127, 128, 129, 130, 131, 132, 133, 134, 135, 136, 137, 138] (by decide +kernel) (by decide +kernel)
set_option maxRecDepth 20000 in
theorem gX8_playOn_X0_isOver_n143 : GoodIn wsX8_playOn (wsX0_isOver) := ggX8_playOn_X0_isOver
set_option maxRecDepth 20000 in
theorem ggX8_playOn_X7_bestMove : GoodIn wsX8_playOn wsX7_bestMove := goodIn_r _ [33, 34, 35, 36, 37, 31, 38, 39, 40, 41, 42, 43, 44, 45, 46, 47, 48, 49, 50, 51, 52, 53, 54, 55, 56, 57, 58, 18, 59, 21, 4, 22, 23, 24, 25, 60, 61, 62, 63, 64, 17, 19, 65, 66, 67, 68, 69, 70, 71, 72, 73, 74, 75, 76, 77, 78, 79, 80, 81, 82, 83, 84, 85, 86, 87, 88, 89, 123, 124, 125, 126, 127, 128, 129, 130, 131, 132, 133, 134, 135, 136, 137, 138, 139, 140, 141, 142, 143, 144, 145, 146] (by decide +kernel) (by decide +kernel)
set_option maxRecDepth 20000 in
theorem gX8_playOn_X7_bestMove_n179 : GoodIn wsX8_playOn (wsX7_bestMove) := ggX8_playOn_X7_bestMove
set_option maxRecDepth 20000 in
theorem ggX8_playOn_X0_make : GoodIn wsX8_playOn wsX0_make := goodIn_r _ [92, 93, 94, 95, 4, 96, 7, 8, 9, 10, 11, 12, 13, 14, 15, 16, 17, 18, 19, 20, 21, 22, 23, 24, 25, 26, 27, 28, 29, 69, 70, 97, 98, 99, 100, 101, 102, 103, 104, 105, 106, 107, 108, 109, 110, 111, 112, 113, 114, 123, 124, 125, 126, 127, 128, 129, 130, 131, 132, 133, 134, 135, 136, 137, 138] (by decide +kernel) (by decide +kernel)
set_option maxRecDepth 20000 in
theorem gX8_playOn_X0_make_n242 : GoodIn wsX8_playOn (wsX0_make) := ggX8_playOn_X0_make
theorem dX8_playOn_0 : decode cX8_playOn 0 = .ok (.iload_n 1, 1) := by decide +kernel
theorem dX8_playOn_1 : decode cX8_playOn 1 = .ok (.iconst 1, 1) := by decide +kernel
theorem dX8_playOn_2 : decode cX8_playOn 2 = .ok (.if_icmp .lt 9, 3) := by decide +kernel
theorem dX8_playOn_5 : decode cX8_playOn 5 = .ok (.iload_n 1, 1) := by decide +kernel
theorem dX8_playOn_6 : decode cX8_playOn 6 = .ok (.bipush 40, 2) := by decide +kernel
theorem dX8_playOn_8 : decode cX8_playOn 8 = .ok (.if_icmp .le 6, 3) := by decide +kernel
theorem dX8_playOn_11 : decode cX8_playOn 11 = .ok (.bipush (-2), 2) := by decide +kernel
theorem dX8_playOn_13 : decode cX8_playOn 13 = .ok (.ireturn, 1) := by decide +kernel
theorem dX8_playOn_14 : decode cX8_playOn 14 = .ok (.aload_n 0, 1) := by decide +kernel
theorem dX8_playOn_15 : decode cX8_playOn 15 = .ok (.getfield 12, 3) := by decide +kernel
theorem dX8_playOn_18 : decode cX8_playOn 18 = .ok (.invokevirtual 143, 3) := by decide +kernel
theorem dX8_playOn_21 : decode cX8_playOn 21 = .ok (.ifCond .eq 6, 3) := by decide +kernel
theorem dX8_playOn_24 : decode cX8_playOn 24 = .ok (.bipush (-5), 2) := by decide +kernel
theorem dX8_playOn_26 : decode cX8_playOn 26 = .ok (.ireturn, 1) := by decide +kernel
theorem dX8_playOn_27 : decode cX8_playOn 27 = .ok (.iconst 0, 1) := by decide +kernel
theorem dX8_playOn_28 : decode cX8_playOn 28 = .ok (.istore_n 2, 1) := by decide +kernel
theorem dX8_playOn_29 : decode cX8_playOn 29 = .ok (.iload_n 2, 1) := by decide +kernel
theorem dX8_playOn_30 : decode cX8_playOn 30 = .ok (.iload_n 1, 1) := by decide +kernel
theorem dX8_playOn_31 : decode cX8_playOn 31 = .ok (.if_icmp .ge 37, 3) := by decide +kernel
theorem dX8_playOn_34 : decode cX8_playOn 34 = .ok (.aload_n 0, 1) := by decide +kernel
theorem dX8_playOn_35 : decode cX8_playOn 35 = .ok (.getfield 12, 3) := by decide +kernel
theorem dX8_playOn_38 : decode cX8_playOn 38 = .ok (.invokevirtual 143, 3) := by decide +kernel
theorem dX8_playOn_41 : decode cX8_playOn 41 = .ok (.ifCond .ne 27, 3) := by decide +kernel
theorem dX8_playOn_44 : decode cX8_playOn 44 = .ok (.aload_n 0, 1) := by decide +kernel
theorem dX8_playOn_45 : decode cX8_playOn 45 = .ok (.getfield 12, 3) := by decide +kernel
theorem dX8_playOn_48 : decode cX8_playOn 48 = .ok (.aload_n 0, 1) := by decide +kernel
theorem dX8_playOn_49 : decode cX8_playOn 49 = .ok (.getfield 38, 3) := by decide +kernel
theorem dX8_playOn_52 : decode cX8_playOn 52 = .ok (.aload_n 0, 1) := by decide +kernel
theorem dX8_playOn_53 : decode cX8_playOn 53 = .ok (.getfield 12, 3) := by decide +kernel
theorem dX8_playOn_56 : decode cX8_playOn 56 = .ok (.invokevirtual 179, 3) := by decide +kernel
theorem dX8_playOn_59 : decode cX8_playOn 59 = .ok (.invokevirtual 242, 3) := by decide +kernel
theorem dX8_playOn_62 : decode cX8_playOn 62 = .ok (.iinc 2 1, 3) := by decide +kernel
theorem dX8_playOn_65 : decode cX8_playOn 65 = .ok (.goto (-36), 3) := by decide +kernel
theorem dX8_playOn_68 : decode cX8_playOn 68 = .ok (.iload_n 2, 1) := by decide +kernel
theorem dX8_playOn_69 : decode cX8_playOn 69 = .ok (.ireturn, 1) := by decide +kernel
theorem dX8_isIn_0 : decode cX8_isIn 0 = .ok (.iload_n 0, 1) := by decide +kernel
theorem dX8_isIn_1 : decode cX8_isIn 1 = .ok (.iload_n 1, 1) := by decide +kernel
theorem dX8_isIn_2 : decode cX8_isIn 2 = .ok (.ishr, 1) := by decide +kernel
theorem dX8_isIn_3 : decode cX8_isIn 3 = .ok (.iconst 1, 1) := by decide +kernel
theorem dX8_isIn_4 : decode cX8_isIn 4 = .ok (.iand, 1) := by decide +kernel
theorem dX8_isIn_5 : decode cX8_isIn 5 = .ok (.iconst 1, 1) := by decide +kernel
theorem dX8_isIn_6 : decode cX8_isIn 6 = .ok (.if_icmp .ne 7, 3) := by decide +kernel
theorem dX8_isIn_9 : decode cX8_isIn 9 = .ok (.iconst 1, 1) := by decide +kernel
theorem dX8_isIn_10 : decode cX8_isIn 10 = .ok (.goto 4, 3) := by decide +kernel
theorem dX8_isIn_13 : decode cX8_isIn 13 = .ok (.iconst 0, 1) := by decide +kernel
theorem dX8_isIn_14 : decode cX8_isIn 14 = .ok (.ireturn, 1) := by decide +kernel
theorem dX8_takesOutOf_0 : decode cX8_takesOutOf 0 = .ok (.iload_n 1, 1) := by decide +kernel
theorem dX8_takesOutOf_1 : decode cX8_takesOutOf 1 = .ok (.iconst 1, 1) := by decide +kernel
theorem dX8_takesOutOf_2 : decode cX8_takesOutOf 2 = .ok (.iload_n 0, 1) := by decide +kernel
theorem dX8_takesOutOf_3 : decode cX8_takesOutOf 3 = .ok (.ishl, 1) := by decide +kernel
theorem dX8_takesOutOf_4 : decode cX8_takesOutOf 4 = .ok (.iconst 1, 1) := by decide +kernel
theorem dX8_takesOutOf_5 : decode cX8_takesOutOf 5 = .ok (.isub, 1) := by decide +kernel
theorem dX8_takesOutOf_6 : decode cX8_takesOutOf 6 = .ok (.iand, 1) := by decide +kernel
theorem dX8_takesOutOf_7 : decode cX8_takesOutOf 7 = .ok (.iconst 5, 1) := by decide +kernel
theorem dX8_takesOutOf_8 : decode cX8_takesOutOf 8 = .ok (.iload_n 2, 1) := by decide +kernel
theorem dX8_takesOutOf_9 : decode cX8_takesOutOf 9 = .ok (.imul, 1) := by decide +kernel
theorem dX8_takesOutOf_10 : decode cX8_takesOutOf 10 = .ok (.ishl, 1) := by decide +kernel
theorem dX8_takesOutOf_11 : decode cX8_takesOutOf 11 = .ok (.ireturn, 1) := by decide +kernel
theorem dX8_takeMove_0 : decode cX8_takeMove 0 = .ok (.iconst 5, 1) := by decide +kernel
theorem dX8_takeMove_1 : decode cX8_takeMove 1 = .ok (.iload_n 0, 1) := by decide +kernel
theorem dX8_takeMove_2 : decode cX8_takeMove 2 = .ok (.imul, 1) := by decide +kernel
theorem dX8_takeMove_3 : decode cX8_takeMove 3 = .ok (.iload_n 1, 1) := by decide +kernel
theorem dX8_takeMove_4 : decode cX8_takeMove 4 = .ok (.iadd, 1) := by decide +kernel
theorem dX8_takeMove_5 : decode cX8_takeMove 5 = .ok (.iconst 1, 1) := by decide +kernel
theorem dX8_takeMove_6 : decode cX8_takeMove 6 = .ok (.isub, 1) := by decide +kernel
theorem dX8_takeMove_7 : decode cX8_takeMove 7 = .ok (.ireturn, 1) := by decide +kernel
theorem dJ9_max_7cf53_0 : decode cJ9_max_7cf53 0 = .ok (.iload_n 0, 1) := by decide +kernel
theorem dJ9_max_7cf53_1 : decode cJ9_max_7cf53 1 = .ok (.iload_n 1, 1) := by decide +kernel
theorem dJ9_max_7cf53_2 : decode cJ9_max_7cf53 2 = .ok (.if_icmp .lt 7, 3) := by decide +kernel
theorem dJ9_max_7cf53_5 : decode cJ9_max_7cf53 5 = .ok (.iload_n 0, 1) := by decide +kernel
