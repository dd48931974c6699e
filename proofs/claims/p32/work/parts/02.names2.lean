theorem dX6_leave_5 : decode cX6_leave 5 = .ok (.getfield 10, 3) := by decide +kernel
theorem dX6_leave_8 : decode cX6_leave 8 = .ok (.invokevirtual 50, 3) := by decide +kernel
theorem dX6_leave_11 : decode cX6_leave 11 = .ok (.aload_n 0, 1) := by decide +kernel
theorem dX6_leave_12 : decode cX6_leave 12 = .ok (.aload_n 0, 1) := by decide +kernel
theorem dX6_leave_13 : decode cX6_leave 13 = .ok (.iload_n 1, 1) := by decide +kernel
theorem dX6_leave_14 : decode cX6_leave 14 = .ok (.iload_n 2, 1) := by decide +kernel
theorem dX6_leave_15 : decode cX6_leave 15 = .ok (.iload_n 3, 1) := by decide +kernel
theorem dX6_leave_16 : decode cX6_leave 16 = .ok (.invokevirtual 92, 3) := by decide +kernel
theorem dX6_leave_19 : decode cX6_leave 19 = .ok (.invokevirtual 58, 3) := by decide +kernel
theorem dX6_leave_22 : decode cX6_leave 22 = .ok (.ireturn, 1) := by decide +kernel
set_option maxRecDepth 20000 in
theorem ggX6_takeBack_X6_isPerson : GoodIn wsX6_takeBack wsX6_isPerson := goodIn_r _ [6] (by decide +kernel) (by decide +kernel)
set_option maxRecDepth 20000 in
theorem gX6_takeBack_X6_isPerson : GoodIn wsX6_takeBack (va_wsS RX6 80 yX6_isPerson wsX6_isPerson) := goodIn_app (goodIn_of _ (by decide +kernel)) ggX6_takeBack_X6_isPerson
set_option maxRecDepth 20000 in
theorem ggX6_takeBack_X6_isDay : GoodIn wsX6_takeBack wsX6_isDay := goodIn_r _ [9] (by decide +kernel) (by decide +kernel)
set_option maxRecDepth 20000 in
theorem gX6_takeBack_X6_isDay : GoodIn wsX6_takeBack (va_wsS RX6 83 yX6_isDay wsX6_isDay) := goodIn_app (goodIn_of _ (by decide +kernel)) ggX6_takeBack_X6_isDay
set_option maxRecDepth 20000 in
theorem ggX6_takeBack_X2_find : GoodIn wsX6_takeBack wsX2_find := goodIn_r _ [14, 15, 16, 17, 18, 87, 88, 89, 90] (by decide +kernel) (by decide +kernel)
set_option maxRecDepth 20000 in
theorem gX6_takeBack_X2_find : GoodIn wsX6_takeBack (wsV RX6 100 RX2 yX2_find wsX2_find) := goodIn_app (goodIn_of _ (by decide +kernel)) ggX6_takeBack_X2_find
set_option maxRecDepth 20000 in
theorem ggX6_takeBack_X1_push : GoodIn wsX6_takeBack wsX1_push := goodIn_r _ [23, 24, 25, 26, 27, 28, 22, 29, 30, 5, 31, 32, 33, 34, 35, 36, 37, 38, 39, 40, 41, 42, 43, 44, 45, 46, 47, 48, 49, 50, 51, 52, 53, 13, 54, 15, 16, 17, 18, 55, 56, 57, 58, 59, 60, 61, 62, 63, 64, 65, 66, 91, 92, 93, 94, 79, 80, 81, 82, 83, 84, 85, 86, 87, 88, 89, 90, 95, 96, 97, 98, 99, 100, 101] (by decide +kernel) (by decide +kernel)
set_option maxRecDepth 20000 in
theorem gX6_takeBack_X1_push : GoodIn wsX6_takeBack (wsV RX6 77 RX1 yX1_push wsX1_push) := goodIn_app (goodIn_of _ (by decide +kernel)) ggX6_takeBack_X1_push
set_option maxRecDepth 20000 in
theorem ggX6_takeBack_X2_removeAt : GoodIn wsX6_takeBack wsX2_removeAt := goodIn_r _ [70, 15, 18, 17, 16, 30, 5, 31, 87, 88, 89, 90] (by decide +kernel) (by decide +kernel)
set_option maxRecDepth 20000 in
theorem gX6_takeBack_X2_removeAt : GoodIn wsX6_takeBack (wsV RX6 105 RX2 yX2_removeAt wsX2_removeAt) := goodIn_app (goodIn_of _ (by decide +kernel)) ggX6_takeBack_X2_removeAt
theorem dX6_takeBack_0 : decode cX6_takeBack 0 = .ok (.iload_n 1, 1) := by decide +kernel
theorem dX6_takeBack_1 : decode cX6_takeBack 1 = .ok (.invokestatic 80, 3) := by decide +kernel
theorem dX6_takeBack_4 : decode cX6_takeBack 4 = .ok (.ifCond .ne 5, 3) := by decide +kernel
theorem dX6_takeBack_7 : decode cX6_takeBack 7 = .ok (.iconst (-1), 1) := by decide +kernel
theorem dX6_takeBack_8 : decode cX6_takeBack 8 = .ok (.ireturn, 1) := by decide +kernel
theorem dX6_takeBack_9 : decode cX6_takeBack 9 = .ok (.iload_n 2, 1) := by decide +kernel
theorem dX6_takeBack_10 : decode cX6_takeBack 10 = .ok (.invokestatic 83, 3) := by decide +kernel
theorem dX6_takeBack_13 : decode cX6_takeBack 13 = .ok (.ifCond .ne 6, 3) := by decide +kernel
theorem dX6_takeBack_16 : decode cX6_takeBack 16 = .ok (.bipush (-2), 2) := by decide +kernel
theorem dX6_takeBack_18 : decode cX6_takeBack 18 = .ok (.ireturn, 1) := by decide +kernel
theorem dX6_takeBack_19 : decode cX6_takeBack 19 = .ok (.aload_n 0, 1) := by decide +kernel
theorem dX6_takeBack_20 : decode cX6_takeBack 20 = .ok (.getfield 10, 3) := by decide +kernel
theorem dX6_takeBack_23 : decode cX6_takeBack 23 = .ok (.getfield 96, 3) := by decide +kernel
theorem dX6_takeBack_26 : decode cX6_takeBack 26 = .ok (.iload_n 1, 1) := by decide +kernel
theorem dX6_takeBack_27 : decode cX6_takeBack 27 = .ok (.iload_n 2, 1) := by decide +kernel
theorem dX6_takeBack_28 : decode cX6_takeBack 28 = .ok (.iload_n 2, 1) := by decide +kernel
theorem dX6_takeBack_29 : decode cX6_takeBack 29 = .ok (.invokevirtual 100, 3) := by decide +kernel
theorem dX6_takeBack_32 : decode cX6_takeBack 32 = .ok (.istore_n 3, 1) := by decide +kernel
theorem dX6_takeBack_33 : decode cX6_takeBack 33 = .ok (.iload_n 3, 1) := by decide +kernel
theorem dX6_takeBack_34 : decode cX6_takeBack 34 = .ok (.bipush (-5), 2) := by decide +kernel
theorem dX6_takeBack_36 : decode cX6_takeBack 36 = .ok (.if_icmp .ne 6, 3) := by decide +kernel
theorem dX6_takeBack_39 : decode cX6_takeBack 39 = .ok (.bipush (-5), 2) := by decide +kernel
theorem dX6_takeBack_41 : decode cX6_takeBack 41 = .ok (.ireturn, 1) := by decide +kernel
theorem dX6_takeBack_42 : decode cX6_takeBack 42 = .ok (.aload_n 0, 1) := by decide +kernel
theorem dX6_takeBack_43 : decode cX6_takeBack 43 = .ok (.getfield 22, 3) := by decide +kernel
theorem dX6_takeBack_46 : decode cX6_takeBack 46 = .ok (.aload_n 0, 1) := by decide +kernel
theorem dX6_takeBack_47 : decode cX6_takeBack 47 = .ok (.getfield 10, 3) := by decide +kernel
theorem dX6_takeBack_50 : decode cX6_takeBack 50 = .ok (.invokevirtual 77, 3) := by decide +kernel
theorem dX6_takeBack_53 : decode cX6_takeBack 53 = .ok (.aload_n 0, 1) := by decide +kernel
theorem dX6_takeBack_54 : decode cX6_takeBack 54 = .ok (.getfield 10, 3) := by decide +kernel
theorem dX6_takeBack_57 : decode cX6_takeBack 57 = .ok (.getfield 96, 3) := by decide +kernel
theorem dX6_takeBack_60 : decode cX6_takeBack 60 = .ok (.iload_n 3, 1) := by decide +kernel
theorem dX6_takeBack_61 : decode cX6_takeBack 61 = .ok (.invokevirtual 105, 3) := by decide +kernel
theorem dX6_takeBack_64 : decode cX6_takeBack 64 = .ok (.ireturn, 1) := by decide +kernel
set_option maxRecDepth 20000 in
theorem ggX6_drill_X5_copyFrom : GoodIn wsX6_drill wsX5_copyFrom := goodIn_r _ [7, 8, 9, 10, 11, 12, 13, 14, 15, 16, 17, 18, 19, 20, 21, 22, 23, 24, 25, 26, 27, 28, 29, 30, 31, 32, 33, 34, 35, 36, 37, 38, 39, 40, 41, 42, 43, 144, 145, 146, 147, 148, 149, 150, 151, 152, 153, 154, 155, 156, 157, 158, 159, 160, 161, 162] (by decide +kernel) (by decide +kernel)
set_option maxRecDepth 20000 in
theorem gX6_drill_X5_copyFrom : GoodIn wsX6_drill (wsV RX6 50 RX5 yX5_copyFrom wsX5_copyFrom) := goodIn_app (goodIn_of _ (by decide +kernel)) ggX6_drill_X5_copyFrom
set_option maxRecDepth 20000 in
theorem ggX6_drill_X6_holdDrill : GoodIn wsX6_drill wsX6_holdDrill := goodIn_r _ [47, 48, 2, 49, 50, 17, 51, 52, 53, 54, 55, 56, 57, 58, 59, 60, 61, 62, 63, 64, 65, 66, 67, 68, 69, 70, 71, 72, 73, 74, 75, 76, 77, 78, 79, 6, 80, 13, 14, 81, 82, 83, 26, 84, 28, 30, 31, 29, 85, 86, 87, 88, 89, 90, 91, 92, 93, 94, 95, 96, 11, 12, 97, 98, 99, 100, 101, 102, 103, 104, 105, 106, 107, 108, 109, 110, 111, 112, 113, 114, 115, 35, 116, 41, 42, 43, 38, 39, 40, 37, 117, 118, 136, 137, 138, 139, 140, 141, 142, 143, 144, 145, 146, 147, 148, 149, 150, 151, 163, 164, 165, 166, 167, 168, 152, 153, 154, 155, 156, 157, 158, 159, 160, 161, 162] (by decide +kernel) (by decide +kernel)
set_option maxRecDepth 20000 in
theorem gX6_drill_X6_holdDrill : GoodIn wsX6_drill (wsV RX6 108 RX6 yX6_holdDrill wsX6_holdDrill) := goodIn_app (goodIn_of _ (by decide +kernel)) ggX6_drill_X6_holdDrill
set_option maxRecDepth 20000 in
theorem ggX6_drill_X6_recorded : GoodIn wsX6_drill wsX6_recorded := goodIn_r _ [122, 123, 1, 124, 125, 126, 127, 128, 129, 130, 131, 132, 133, 134, 53, 17, 54, 135, 4, 5, 6, 7, 8, 9, 10, 11, 12, 13, 14, 15, 16, 18, 19, 20, 21, 22, 23, 24, 25, 26, 27, 28, 29, 30, 31, 32, 33, 34, 35, 36, 37, 38, 39, 40, 41, 42, 43, 136, 137, 138, 139, 140, 141, 142, 143, 169, 170, 171, 172, 144, 145, 146, 147, 148, 149, 150, 151, 152, 153, 154, 155, 156, 157, 158, 159, 160, 161, 162] (by decide +kernel) (by decide +kernel)
set_option maxRecDepth 20000 in
theorem gX6_drill_X6_recorded : GoodIn wsX6_drill (wsV RX6 58 RX6 yX6_recorded wsX6_recorded) := goodIn_app (goodIn_of _ (by decide +kernel)) ggX6_drill_X6_recorded
theorem dX6_drill_0 : decode cX6_drill 0 = .ok (.aload_n 0, 1) := by decide +kernel
theorem dX6_drill_1 : decode cX6_drill 1 = .ok (.getfield 16, 3) := by decide +kernel
theorem dX6_drill_4 : decode cX6_drill 4 = .ok (.aload_n 0, 1) := by decide +kernel
theorem dX6_drill_5 : decode cX6_drill 5 = .ok (.getfield 10, 3) := by decide +kernel
theorem dX6_drill_8 : decode cX6_drill 8 = .ok (.invokevirtual 50, 3) := by decide +kernel
theorem dX6_drill_11 : decode cX6_drill 11 = .ok (.aload_n 0, 1) := by decide +kernel
theorem dX6_drill_12 : decode cX6_drill 12 = .ok (.aload_n 0, 1) := by decide +kernel
theorem dX6_drill_13 : decode cX6_drill 13 = .ok (.iload_n 1, 1) := by decide +kernel
theorem dX6_drill_14 : decode cX6_drill 14 = .ok (.iload_n 2, 1) := by decide +kernel
theorem dX6_drill_15 : decode cX6_drill 15 = .ok (.invokevirtual 108, 3) := by decide +kernel
theorem dX6_drill_18 : decode cX6_drill 18 = .ok (.invokevirtual 58, 3) := by decide +kernel
theorem dX6_drill_21 : decode cX6_drill 21 = .ok (.ireturn, 1) := by decide +kernel
set_option maxRecDepth 20000 in
theorem ggX6_pass_X5_copyFrom : GoodIn wsX6_pass wsX5_copyFrom := goodIn_r _ [7, 8, 9, 10, 11, 12, 13, 14, 15, 16, 17, 18, 19, 20, 21, 22, 23, 24, 25, 26, 27, 28, 29, 30, 31, 32, 33, 34, 35, 36, 37, 38, 39, 40, 41, 42, 43, 137, 138, 139, 140, 141, 142, 143, 144, 145, 146, 147, 148, 149, 150, 151, 152, 153, 154, 155] (by decide +kernel) (by decide +kernel)
set_option maxRecDepth 20000 in
theorem gX6_pass_X5_copyFrom : GoodIn wsX6_pass (wsV RX6 50 RX5 yX5_copyFrom wsX5_copyFrom) := goodIn_app (goodIn_of _ (by decide +kernel)) ggX6_pass_X5_copyFrom
set_option maxRecDepth 20000 in
theorem ggX6_pass_X6_letDaysPass : GoodIn wsX6_pass wsX6_letDaysPass := goodIn_r _ [47, 2, 48, 49, 17, 50, 51, 52, 53, 54, 55, 56, 57, 58, 59, 60, 61, 62, 63, 64, 65, 66, 67, 68, 69, 70, 71, 72, 73, 74, 75, 76, 77, 78, 79, 80, 6, 81, 13, 14, 82, 83, 84, 26, 85, 28, 30, 31, 29, 86, 87, 88, 89, 90, 91, 92, 93, 94, 95, 96, 97, 98, 99, 11, 12, 100, 101, 102, 103, 104, 105, 106, 107, 108, 109, 110, 111, 129, 130, 131, 132, 133, 134, 135, 136, 137, 138, 139, 140, 141, 142, 143, 144, 156, 157, 158, 159, 160, 161, 145, 146, 147, 148] (by decide +kernel) (by decide +kernel)
set_option maxRecDepth 20000 in
theorem gX6_pass_X6_letDaysPass : GoodIn wsX6_pass (wsV RX6 111 RX6 yX6_letDaysPass wsX6_letDaysPass) := goodIn_app (goodIn_of _ (by decide +kernel)) ggX6_pass_X6_letDaysPass
set_option maxRecDepth 20000 in
theorem ggX6_pass_X6_recorded : GoodIn wsX6_pass wsX6_recorded := goodIn_r _ [115, 116, 1, 117, 118, 119, 120, 121, 122, 123, 124, 125, 126, 127, 49, 17, 50, 128, 4, 5, 6, 7, 8, 9, 10, 11, 12, 13, 14, 15, 16, 18, 19, 20, 21, 22, 23, 24, 25, 26, 27, 28, 29, 30, 31, 32, 33, 34, 35, 36, 37, 38, 39, 40, 41, 42, 43, 129, 130, 131, 132, 133, 134, 135, 136, 162, 163, 164, 165, 137, 138, 139, 140, 141, 142, 143, 144, 145, 146, 147, 148, 149, 150, 151, 152, 153, 154, 155] (by decide +kernel) (by decide +kernel)
set_option maxRecDepth 20000 in
theorem gX6_pass_X6_recorded : GoodIn wsX6_pass (wsV RX6 58 RX6 yX6_recorded wsX6_recorded) := goodIn_app (goodIn_of _ (by decide +kernel)) ggX6_pass_X6_recorded
theorem dX6_pass_0 : decode cX6_pass 0 = .ok (.aload_n 0, 1) := by decide +kernel
theorem dX6_pass_1 : decode cX6_pass 1 = .ok (.getfield 16, 3) := by decide +kernel
theorem dX6_pass_4 : decode cX6_pass 4 = .ok (.aload_n 0, 1) := by decide +kernel
theorem dX6_pass_5 : decode cX6_pass 5 = .ok (.getfield 10, 3) := by decide +kernel
theorem dX6_pass_8 : decode cX6_pass 8 = .ok (.invokevirtual 50, 3) := by decide +kernel
theorem dX6_pass_11 : decode cX6_pass 11 = .ok (.aload_n 0, 1) := by decide +kernel
theorem dX6_pass_12 : decode cX6_pass 12 = .ok (.aload_n 0, 1) := by decide +kernel
theorem dX6_pass_13 : decode cX6_pass 13 = .ok (.iload_n 1, 1) := by decide +kernel
theorem dX6_pass_14 : decode cX6_pass 14 = .ok (.invokevirtual 111, 3) := by decide +kernel
theorem dX6_pass_17 : decode cX6_pass 17 = .ok (.invokevirtual 58, 3) := by decide +kernel
theorem dX6_pass_20 : decode cX6_pass 20 = .ok (.ireturn, 1) := by decide +kernel
set_option maxRecDepth 20000 in
theorem ggX6_stopped_X6_isWithin : GoodIn wsX6_stopped wsX6_isWithin := goodIn_r _ [6] (by decide +kernel) (by decide +kernel)
set_option maxRecDepth 20000 in
theorem gX6_stopped_X6_isWithin : GoodIn wsX6_stopped (va_wsS RX6 69 yX6_isWithin wsX6_isWithin) := goodIn_app (goodIn_of _ (by decide +kernel)) ggX6_stopped_X6_isWithin
theorem dX6_stopped_0 : decode cX6_stopped 0 = .ok (.iload_n 1, 1) := by decide +kernel
theorem dX6_stopped_1 : decode cX6_stopped 1 = .ok (.iconst 0, 1) := by decide +kernel
theorem dX6_stopped_2 : decode cX6_stopped 2 = .ok (.iconst 1, 1) := by decide +kernel
theorem dX6_stopped_3 : decode cX6_stopped 3 = .ok (.invokestatic 69, 3) := by decide +kernel
theorem dX6_stopped_6 : decode cX6_stopped 6 = .ok (.ifCond .ne 6, 3) := by decide +kernel
theorem dX6_stopped_9 : decode cX6_stopped 9 = .ok (.bipush (-2), 2) := by decide +kernel
theorem dX6_stopped_11 : decode cX6_stopped 11 = .ok (.ireturn, 1) := by decide +kernel
theorem dX6_stopped_12 : decode cX6_stopped 12 = .ok (.iload_n 1, 1) := by decide +kernel
theorem dX6_stopped_13 : decode cX6_stopped 13 = .ok (.ifCond .ne 10, 3) := by decide +kernel
theorem dX6_stopped_16 : decode cX6_stopped 16 = .ok (.aload_n 0, 1) := by decide +kernel
theorem dX6_stopped_17 : decode cX6_stopped 17 = .ok (.getfield 43, 3) := by decide +kernel
theorem dX6_stopped_20 : decode cX6_stopped 20 = .ok (.goto 7, 3) := by decide +kernel
theorem dX6_stopped_23 : decode cX6_stopped 23 = .ok (.aload_n 0, 1) := by decide +kernel
theorem dX6_stopped_24 : decode cX6_stopped 24 = .ok (.getfield 47, 3) := by decide +kernel
theorem dX6_stopped_27 : decode cX6_stopped 27 = .ok (.ireturn, 1) := by decide +kernel
set_option maxRecDepth 20000 in
theorem ggX6_undo_X1_popInto : GoodIn wsX6_undo wsX1_popInto := goodIn_r _ [7, 8, 9, 10, 11, 12, 13, 14, 15, 16, 17, 18, 19, 20, 21, 22, 23, 24, 25, 26, 27, 28, 29, 30, 31, 32, 33, 34, 35, 36, 37, 38, 39, 40, 41, 42, 43, 44, 45, 46, 47, 48, 49, 50, 51, 52, 61, 62, 63, 64, 65, 66, 67, 68, 69, 70, 71, 72, 73, 74, 75, 76, 77, 78, 79, 80, 81, 82, 83] (by decide +kernel) (by decide +kernel)
set_option maxRecDepth 20000 in
theorem gX6_undo_X1_popInto : GoodIn wsX6_undo (wsV RX6 135 RX1 yX1_popInto wsX1_popInto) := goodIn_app (goodIn_of _ (by decide +kernel)) ggX6_undo_X1_popInto
theorem dX6_undo_0 : decode cX6_undo 0 = .ok (.aload_n 0, 1) := by decide +kernel
theorem dX6_undo_1 : decode cX6_undo 1 = .ok (.getfield 22, 3) := by decide +kernel
theorem dX6_undo_4 : decode cX6_undo 4 = .ok (.aload_n 0, 1) := by decide +kernel
theorem dX6_undo_5 : decode cX6_undo 5 = .ok (.getfield 10, 3) := by decide +kernel
theorem dX6_undo_8 : decode cX6_undo 8 = .ok (.invokevirtual 135, 3) := by decide +kernel
theorem dX6_undo_11 : decode cX6_undo 11 = .ok (.ireturn, 1) := by decide +kernel
set_option maxRecDepth 20000 in
theorem ggX6_keep_X1_keepSnapshot : GoodIn wsX6_keep wsX1_keepSnapshot := goodIn_r _ [7, 8, 9, 10, 11, 12, 13, 14, 15, 16, 17, 18, 19, 20, 21, 22, 23, 24, 25, 26, 27, 28, 29, 30, 31, 32, 33, 34, 35, 36, 37, 38, 39, 40, 41, 42, 43, 44, 45, 46, 47, 48, 49, 50, 67, 68, 69, 70, 59, 60, 61, 62, 63, 64, 65, 66, 71, 72, 73, 74, 75, 76, 77, 78, 79, 80, 81] (by decide +kernel) (by decide +kernel)
set_option maxRecDepth 20000 in
theorem gX6_keep_X1_keepSnapshot : GoodIn wsX6_keep (wsV RX6 139 RX1 yX1_keepSnapshot wsX1_keepSnapshot) := goodIn_app (goodIn_of _ (by decide +kernel)) ggX6_keep_X1_keepSnapshot
theorem dX6_keep_0 : decode cX6_keep 0 = .ok (.aload_n 0, 1) := by decide +kernel
theorem dX6_keep_1 : decode cX6_keep 1 = .ok (.getfield 22, 3) := by decide +kernel
theorem dX6_keep_4 : decode cX6_keep 4 = .ok (.aload_n 0, 1) := by decide +kernel
theorem dX6_keep_5 : decode cX6_keep 5 = .ok (.getfield 10, 3) := by decide +kernel
theorem dX6_keep_8 : decode cX6_keep 8 = .ok (.invokevirtual 139, 3) := by decide +kernel
theorem dX6_keep_11 : decode cX6_keep 11 = .ok (.aload_n 0, 1) := by decide +kernel
theorem dX6_keep_12 : decode cX6_keep 12 = .ok (.getfield 10, 3) := by decide +kernel
theorem dX6_keep_15 : decode cX6_keep 15 = .ok (.getfield 142, 3) := by decide +kernel
theorem dX6_keep_18 : decode cX6_keep 18 = .ok (.ireturn, 1) := by decide +kernel
set_option maxRecDepth 20000 in
theorem ggX6_restore_X5_copyFrom : GoodIn wsX6_restore wsX5_copyFrom := goodIn_r _ [8, 9, 10, 11, 12, 13, 14, 15, 16, 17, 18, 19, 20, 21, 22, 23, 24, 25, 26, 27, 28, 29, 30, 31, 32, 33, 34, 35, 36, 37, 38, 39, 40, 41, 42, 43, 44, 77, 78, 79, 80, 81, 82, 83, 84, 85, 86, 87, 88, 89, 90, 91, 92, 93, 94, 95] (by decide +kernel) (by decide +kernel)
set_option maxRecDepth 20000 in
theorem gX6_restore_X5_copyFrom : GoodIn wsX6_restore (wsV RX6 50 RX5 yX5_copyFrom wsX5_copyFrom) := goodIn_app (goodIn_of _ (by decide +kernel)) ggX6_restore_X5_copyFrom
set_option maxRecDepth 20000 in
theorem ggX6_restore_X1_snapshotInto : GoodIn wsX6_restore wsX1_snapshotInto := goodIn_r _ [49, 50, 51, 52, 5, 6, 7, 8, 9, 10, 11, 12, 13, 14, 15, 16, 17, 18, 19, 20, 21, 22, 23, 24, 25, 26, 27, 28, 29, 30, 31, 32, 33, 34, 35, 36, 37, 38, 39, 40, 41, 42, 43, 44, 96, 97, 98, 99, 77, 78, 79, 80, 81, 82, 83, 84, 85, 86, 87, 88, 89, 90, 91, 92, 93, 94, 95] (by decide +kernel) (by decide +kernel)
set_option maxRecDepth 20000 in
theorem gX6_restore_X1_snapshotInto : GoodIn wsX6_restore (wsV RX6 145 RX1 yX1_snapshotInto wsX1_snapshotInto) := goodIn_app (goodIn_of _ (by decide +kernel)) ggX6_restore_X1_snapshotInto
set_option maxRecDepth 20000 in
theorem ggX6_restore_X6_recorded : GoodIn wsX6_restore wsX6_recorded := goodIn_r _ [56, 3, 1, 57, 58, 59, 48, 60, 61, 62, 63, 64, 65, 66, 67, 18, 68, 52, 5, 6, 7, 8, 9, 10, 11, 12, 13, 14, 15, 16, 17, 19, 20, 21, 22, 23, 24, 25, 26, 27, 28, 29, 30, 31, 32, 33, 34, 35, 36, 37, 38, 39, 40, 41, 42, 43, 44, 69, 70, 71, 72, 73, 74, 75, 76, 96, 97, 98, 99, 77, 78, 79, 80, 81, 82, 83, 84, 85, 86, 87, 88, 89, 90, 91, 92, 93, 94, 95] (by decide +kernel) (by decide +kernel)
set_option maxRecDepth 20000 in
theorem gX6_restore_X6_recorded : GoodIn wsX6_restore (wsV RX6 58 RX6 yX6_recorded wsX6_recorded) := goodIn_app (goodIn_of _ (by decide +kernel)) ggX6_restore_X6_recorded
theorem dX6_restore_0 : decode cX6_restore 0 = .ok (.aload_n 0, 1) := by decide +kernel
theorem dX6_restore_1 : decode cX6_restore 1 = .ok (.getfield 16, 3) := by decide +kernel
theorem dX6_restore_4 : decode cX6_restore 4 = .ok (.aload_n 0, 1) := by decide +kernel
theorem dX6_restore_5 : decode cX6_restore 5 = .ok (.getfield 10, 3) := by decide +kernel
theorem dX6_restore_8 : decode cX6_restore 8 = .ok (.invokevirtual 50, 3) := by decide +kernel
theorem dX6_restore_11 : decode cX6_restore 11 = .ok (.aload_n 0, 1) := by decide +kernel
theorem dX6_restore_12 : decode cX6_restore 12 = .ok (.getfield 22, 3) := by decide +kernel
theorem dX6_restore_15 : decode cX6_restore 15 = .ok (.aload_n 0, 1) := by decide +kernel
theorem dX6_restore_16 : decode cX6_restore 16 = .ok (.getfield 10, 3) := by decide +kernel
theorem dX6_restore_19 : decode cX6_restore 19 = .ok (.invokevirtual 145, 3) := by decide +kernel
theorem dX6_restore_22 : decode cX6_restore 22 = .ok (.ifCond .ne 6, 3) := by decide +kernel
theorem dX6_restore_25 : decode cX6_restore 25 = .ok (.bipush (-5), 2) := by decide +kernel
theorem dX6_restore_27 : decode cX6_restore 27 = .ok (.ireturn, 1) := by decide +kernel
theorem dX6_restore_28 : decode cX6_restore 28 = .ok (.aload_n 0, 1) := by decide +kernel
theorem dX6_restore_29 : decode cX6_restore 29 = .ok (.aload_n 0, 1) := by decide +kernel
theorem dX6_restore_30 : decode cX6_restore 30 = .ok (.getfield 10, 3) := by decide +kernel
theorem dX6_restore_33 : decode cX6_restore 33 = .ok (.getfield 142, 3) := by decide +kernel
theorem dX6_restore_36 : decode cX6_restore 36 = .ok (.invokevirtual 58, 3) := by decide +kernel
theorem dX6_restore_39 : decode cX6_restore 39 = .ok (.ireturn, 1) := by decide +kernel
set_option maxRecDepth 20000 in
theorem ggX6_warden_X6_isFloor : GoodIn wsX6_warden wsX6_isFloor := goodIn_r _ [6] (by decide +kernel) (by decide +kernel)
set_option maxRecDepth 20000 in
theorem gX6_warden_X6_isFloor : GoodIn wsX6_warden (va_wsS RX6 65 yX6_isFloor wsX6_isFloor) := goodIn_app (goodIn_of _ (by decide +kernel)) ggX6_warden_X6_isFloor
set_option maxRecDepth 20000 in
theorem ggX6_warden_X6_isDay : GoodIn wsX6_warden wsX6_isDay := goodIn_r _ [9] (by decide +kernel) (by decide +kernel)
set_option maxRecDepth 20000 in
theorem gX6_warden_X6_isDay : GoodIn wsX6_warden (va_wsS RX6 83 yX6_isDay wsX6_isDay) := goodIn_app (goodIn_of _ (by decide +kernel)) ggX6_warden_X6_isDay
set_option maxRecDepth 20000 in
theorem ggX6_warden_X4_lay : GoodIn wsX6_warden wsX4_lay := goodIn_r _ [14, 15, 16, 17, 18, 13, 19, 20, 21, 22, 23, 24, 25, 26, 27, 28, 29, 30, 31, 32, 33, 34, 35, 36, 37, 38, 39, 40, 41, 42, 43, 44, 45, 46, 47, 48, 49, 50, 51, 4, 5, 6, 52, 53, 54, 55, 56, 57, 58, 59, 60, 61, 62, 63, 64, 65, 66, 67, 68, 69, 70, 71, 72, 87, 88, 89, 90, 91, 92, 93, 94, 95, 96, 97, 98, 99, 100, 101, 102, 103, 104] (by decide +kernel) (by decide +kernel)
set_option maxRecDepth 20000 in
theorem gX6_warden_X4_lay : GoodIn wsX6_warden (wsV RX6 149 RX4 yX4_lay wsX4_lay) := goodIn_app (goodIn_of _ (by decide +kernel)) ggX6_warden_X4_lay
set_option maxRecDepth 20000 in
theorem ggX6_warden_X4_takenAt : GoodIn wsX6_warden wsX4_takenAt := goodIn_r _ [76, 22, 68, 4, 5, 6, 77, 78, 87, 88, 89, 90, 91, 92] (by decide +kernel) (by decide +kernel)
set_option maxRecDepth 20000 in
theorem gX6_warden_X4_takenAt : GoodIn wsX6_warden (wsV RX6 153 RX4 yX4_takenAt wsX4_takenAt) := goodIn_app (goodIn_of _ (by decide +kernel)) ggX6_warden_X4_takenAt
theorem dX6_warden_0 : decode cX6_warden 0 = .ok (.iload_n 2, 1) := by decide +kernel
theorem dX6_warden_1 : decode cX6_warden 1 = .ok (.invokestatic 65, 3) := by decide +kernel
theorem dX6_warden_4 : decode cX6_warden 4 = .ok (.ifCond .ne 5, 3) := by decide +kernel
theorem dX6_warden_7 : decode cX6_warden 7 = .ok (.iconst (-1), 1) := by decide +kernel
theorem dX6_warden_8 : decode cX6_warden 8 = .ok (.ireturn, 1) := by decide +kernel
theorem dX6_warden_9 : decode cX6_warden 9 = .ok (.iload_n 1, 1) := by decide +kernel
theorem dX6_warden_10 : decode cX6_warden 10 = .ok (.invokestatic 83, 3) := by decide +kernel
theorem dX6_warden_13 : decode cX6_warden 13 = .ok (.ifCond .eq 7, 3) := by decide +kernel
theorem dX6_warden_16 : decode cX6_warden 16 = .ok (.iload_n 3, 1) := by decide +kernel
theorem dX6_warden_17 : decode cX6_warden 17 = .ok (.ifCond .ge 6, 3) := by decide +kernel
theorem dX6_warden_20 : decode cX6_warden 20 = .ok (.bipush (-2), 2) := by decide +kernel
theorem dX6_warden_22 : decode cX6_warden 22 = .ok (.ireturn, 1) := by decide +kernel
theorem dX6_warden_23 : decode cX6_warden 23 = .ok (.aload_n 0, 1) := by decide +kernel
theorem dX6_warden_24 : decode cX6_warden 24 = .ok (.getfield 36, 3) := by decide +kernel
theorem dX6_warden_27 : decode cX6_warden 27 = .ok (.aload_n 0, 1) := by decide +kernel
theorem dX6_warden_28 : decode cX6_warden 28 = .ok (.getfield 10, 3) := by decide +kernel
theorem dX6_warden_31 : decode cX6_warden 31 = .ok (.iload_n 1, 1) := by decide +kernel
theorem dX6_warden_32 : decode cX6_warden 32 = .ok (.iconst 0, 1) := by decide +kernel
theorem dX6_warden_33 : decode cX6_warden 33 = .ok (.invokevirtual 149, 3) := by decide +kernel
theorem dX6_warden_36 : decode cX6_warden 36 = .ok (.aload_n 0, 1) := by decide +kernel
theorem dX6_warden_37 : decode cX6_warden 37 = .ok (.getfield 36, 3) := by decide +kernel
theorem dX6_warden_40 : decode cX6_warden 40 = .ok (.iload_n 2, 1) := by decide +kernel
theorem dX6_warden_41 : decode cX6_warden 41 = .ok (.iload_n 3, 1) := by decide +kernel
theorem dX6_warden_42 : decode cX6_warden 42 = .ok (.invokevirtual 153, 3) := by decide +kernel
theorem dX6_warden_45 : decode cX6_warden 45 = .ok (.ireturn, 1) := by decide +kernel
set_option maxRecDepth 20000 in
theorem ggX6_staff_X6_isFloor : GoodIn wsX6_staff wsX6_isFloor := goodIn_r _ [6] (by decide +kernel) (by decide +kernel)
set_option maxRecDepth 20000 in
theorem gX6_staff_X6_isFloor : GoodIn wsX6_staff (va_wsS RX6 65 yX6_isFloor wsX6_isFloor) := goodIn_app (goodIn_of _ (by decide +kernel)) ggX6_staff_X6_isFloor
set_option maxRecDepth 20000 in
theorem ggX6_staff_X6_isDay : GoodIn wsX6_staff wsX6_isDay := goodIn_r _ [9] (by decide +kernel) (by decide +kernel)
set_option maxRecDepth 20000 in
theorem gX6_staff_X6_isDay : GoodIn wsX6_staff (va_wsS RX6 83 yX6_isDay wsX6_isDay) := goodIn_app (goodIn_of _ (by decide +kernel)) ggX6_staff_X6_isDay
set_option maxRecDepth 20000 in
theorem ggX6_staff_X6_isWithin : GoodIn wsX6_staff wsX6_isWithin := goodIn_r _ [12] (by decide +kernel) (by decide +kernel)
set_option maxRecDepth 20000 in
theorem gX6_staff_X6_isWithin : GoodIn wsX6_staff (va_wsS RX6 69 yX6_isWithin wsX6_isWithin) := goodIn_app (goodIn_of _ (by decide +kernel)) ggX6_staff_X6_isWithin
set_option maxRecDepth 20000 in
theorem ggX6_staff_X4_lay : GoodIn wsX6_staff wsX4_lay := goodIn_r _ [17, 18, 19, 20, 21, 16, 22, 23, 24, 25, 26, 27, 28, 29, 30, 31, 32, 33, 34, 35, 36, 37, 38, 39, 40, 41, 42, 43, 44, 45, 46, 47, 48, 49, 50, 51, 52, 53, 54, 4, 5, 6, 55, 56, 57, 58, 59, 60, 61, 62, 63, 64, 65, 66, 67, 68, 69, 70, 71, 72, 73, 74, 75, 85, 86, 87, 88, 89, 90, 91, 92, 93, 94, 95, 96, 97, 98, 99, 100, 101, 102] (by decide +kernel) (by decide +kernel)
set_option maxRecDepth 20000 in
theorem gX6_staff_X4_lay : GoodIn wsX6_staff (wsV RX6 149 RX4 yX4_lay wsX4_lay) := goodIn_app (goodIn_of _ (by decide +kernel)) ggX6_staff_X4_lay
set_option maxRecDepth 20000 in
theorem ggX6_staff_X4_lack : GoodIn wsX6_staff wsX4_lack := goodIn_r _ [58, 24, 25, 85, 86, 87, 88, 89, 90] (by decide +kernel) (by decide +kernel)
set_option maxRecDepth 20000 in
theorem gX6_staff_X4_lack : GoodIn wsX6_staff (wsV RX6 159 RX4 yX4_lack wsX4_lack) := goodIn_app (goodIn_of _ (by decide +kernel)) ggX6_staff_X4_lack
theorem dX6_staff_0 : decode cX6_staff 0 = .ok (.iload_n 2, 1) := by decide +kernel
theorem dX6_staff_1 : decode cX6_staff 1 = .ok (.invokestatic 65, 3) := by decide +kernel
theorem dX6_staff_4 : decode cX6_staff 4 = .ok (.ifCond .ne 5, 3) := by decide +kernel
theorem dX6_staff_7 : decode cX6_staff 7 = .ok (.iconst (-1), 1) := by decide +kernel
theorem dX6_staff_8 : decode cX6_staff 8 = .ok (.ireturn, 1) := by decide +kernel
theorem dX6_staff_9 : decode cX6_staff 9 = .ok (.iload_n 1, 1) := by decide +kernel
theorem dX6_staff_10 : decode cX6_staff 10 = .ok (.invokestatic 83, 3) := by decide +kernel
theorem dX6_staff_13 : decode cX6_staff 13 = .ok (.ifCond .eq 12, 3) := by decide +kernel
theorem dX6_staff_16 : decode cX6_staff 16 = .ok (.iload_n 3, 1) := by decide +kernel
theorem dX6_staff_17 : decode cX6_staff 17 = .ok (.iconst 0, 1) := by decide +kernel
theorem dX6_staff_18 : decode cX6_staff 18 = .ok (.iconst 2, 1) := by decide +kernel
theorem dX6_staff_19 : decode cX6_staff 19 = .ok (.invokestatic 69, 3) := by decide +kernel
theorem dX6_staff_22 : decode cX6_staff 22 = .ok (.ifCond .ne 6, 3) := by decide +kernel
theorem dX6_staff_25 : decode cX6_staff 25 = .ok (.bipush (-2), 2) := by decide +kernel
theorem dX6_staff_27 : decode cX6_staff 27 = .ok (.ireturn, 1) := by decide +kernel
theorem dX6_staff_28 : decode cX6_staff 28 = .ok (.aload_n 0, 1) := by decide +kernel
theorem dX6_staff_29 : decode cX6_staff 29 = .ok (.getfield 36, 3) := by decide +kernel
theorem dX6_staff_32 : decode cX6_staff 32 = .ok (.aload_n 0, 1) := by decide +kernel
theorem dX6_staff_33 : decode cX6_staff 33 = .ok (.getfield 10, 3) := by decide +kernel
theorem dX6_staff_36 : decode cX6_staff 36 = .ok (.iload_n 1, 1) := by decide +kernel
theorem dX6_staff_37 : decode cX6_staff 37 = .ok (.iconst 0, 1) := by decide +kernel
theorem dX6_staff_38 : decode cX6_staff 38 = .ok (.invokevirtual 149, 3) := by decide +kernel
theorem dX6_staff_41 : decode cX6_staff 41 = .ok (.iload_n 3, 1) := by decide +kernel
theorem dX6_staff_42 : decode cX6_staff 42 = .ok (.lookupswitch 45 #[(0, 26), (1, 36)], 26) := by decide +kernel
theorem dX6_staff_68 : decode cX6_staff 68 = .ok (.aload_n 0, 1) := by decide +kernel
theorem dX6_staff_69 : decode cX6_staff 69 = .ok (.getfield 36, 3) := by decide +kernel
theorem dX6_staff_72 : decode cX6_staff 72 = .ok (.getfield 156, 3) := by decide +kernel
theorem dX6_staff_75 : decode cX6_staff 75 = .ok (.iload_n 2, 1) := by decide +kernel
theorem dX6_staff_76 : decode cX6_staff 76 = .ok (.iaload, 1) := by decide +kernel
theorem dX6_staff_77 : decode cX6_staff 77 = .ok (.ireturn, 1) := by decide +kernel
theorem dX6_staff_78 : decode cX6_staff 78 = .ok (.aload_n 0, 1) := by decide +kernel
theorem dX6_staff_79 : decode cX6_staff 79 = .ok (.getfield 36, 3) := by decide +kernel
theorem dX6_staff_82 : decode cX6_staff 82 = .ok (.iload_n 2, 1) := by decide +kernel
theorem dX6_staff_83 : decode cX6_staff 83 = .ok (.invokevirtual 159, 3) := by decide +kernel
theorem dX6_staff_86 : decode cX6_staff 86 = .ok (.ireturn, 1) := by decide +kernel
theorem dX6_staff_87 : decode cX6_staff 87 = .ok (.aload_n 0, 1) := by decide +kernel
theorem dX6_staff_88 : decode cX6_staff 88 = .ok (.getfield 36, 3) := by decide +kernel
theorem dX6_staff_91 : decode cX6_staff 91 = .ok (.getfield 162, 3) := by decide +kernel
theorem dX6_staff_94 : decode cX6_staff 94 = .ok (.iload_n 2, 1) := by decide +kernel
theorem dX6_staff_95 : decode cX6_staff 95 = .ok (.iaload, 1) := by decide +kernel
theorem dX6_staff_96 : decode cX6_staff 96 = .ok (.ireturn, 1) := by decide +kernel
set_option maxRecDepth 20000 in
theorem ggX6_floor_X6_isFloor : GoodIn wsX6_floor wsX6_isFloor := goodIn_r _ [5] (by decide +kernel) (by decide +kernel)
set_option maxRecDepth 20000 in
theorem gX6_floor_X6_isFloor : GoodIn wsX6_floor (va_wsS RX6 65 yX6_isFloor wsX6_isFloor) := goodIn_app (goodIn_of _ (by decide +kernel)) ggX6_floor_X6_isFloor
set_option maxRecDepth 20000 in
theorem ggX6_floor_X0_logged : GoodIn wsX6_floor wsX0_logged := goodIn_r _ [10, 11, 12, 13, 14, 3, 4, 5, 15, 16, 33, 34, 35, 36, 37, 38, 39] (by decide +kernel) (by decide +kernel)
set_option maxRecDepth 20000 in
theorem gX6_floor_X0_logged : GoodIn wsX6_floor (wsV RX6 177 RX0 yX0_logged wsX0_logged) := goodIn_app (goodIn_of _ (by decide +kernel)) ggX6_floor_X0_logged
theorem dX6_floor_0 : decode cX6_floor 0 = .ok (.iload_n 1, 1) := by decide +kernel
theorem dX6_floor_1 : decode cX6_floor 1 = .ok (.invokestatic 65, 3) := by decide +kernel
theorem dX6_floor_4 : decode cX6_floor 4 = .ok (.ifCond .ne 5, 3) := by decide +kernel
theorem dX6_floor_7 : decode cX6_floor 7 = .ok (.iconst (-1), 1) := by decide +kernel
theorem dX6_floor_8 : decode cX6_floor 8 = .ok (.ireturn, 1) := by decide +kernel
theorem dX6_floor_9 : decode cX6_floor 9 = .ok (.iload_n 2, 1) := by decide +kernel
theorem dX6_floor_10 : decode cX6_floor 10 = .ok (.tableswitch 77 0 3 #[30, 40, 50, 63], 30) := by decide +kernel
theorem dX6_floor_40 : decode cX6_floor 40 = .ok (.aload_n 0, 1) := by decide +kernel
theorem dX6_floor_41 : decode cX6_floor 41 = .ok (.getfield 10, 3) := by decide +kernel
theorem dX6_floor_44 : decode cX6_floor 44 = .ok (.getfield 73, 3) := by decide +kernel
theorem dX6_floor_47 : decode cX6_floor 47 = .ok (.iload_n 1, 1) := by decide +kernel
theorem dX6_floor_48 : decode cX6_floor 48 = .ok (.iaload, 1) := by decide +kernel
theorem dX6_floor_49 : decode cX6_floor 49 = .ok (.ireturn, 1) := by decide +kernel
theorem dX6_floor_50 : decode cX6_floor 50 = .ok (.aload_n 0, 1) := by decide +kernel
theorem dX6_floor_51 : decode cX6_floor 51 = .ok (.getfield 10, 3) := by decide +kernel
theorem dX6_floor_54 : decode cX6_floor 54 = .ok (.getfield 165, 3) := by decide +kernel
theorem dX6_floor_57 : decode cX6_floor 57 = .ok (.iload_n 1, 1) := by decide +kernel
theorem dX6_floor_58 : decode cX6_floor 58 = .ok (.iaload, 1) := by decide +kernel
theorem dX6_floor_59 : decode cX6_floor 59 = .ok (.ireturn, 1) := by decide +kernel
theorem dX6_floor_60 : decode cX6_floor 60 = .ok (.aload_n 0, 1) := by decide +kernel
theorem dX6_floor_61 : decode cX6_floor 61 = .ok (.getfield 10, 3) := by decide +kernel
theorem dX6_floor_64 : decode cX6_floor 64 = .ok (.getfield 168, 3) := by decide +kernel
theorem dX6_floor_67 : decode cX6_floor 67 = .ok (.getfield 172, 3) := by decide +kernel
theorem dX6_floor_70 : decode cX6_floor 70 = .ok (.iload_n 1, 1) := by decide +kernel
theorem dX6_floor_71 : decode cX6_floor 71 = .ok (.iaload, 1) := by decide +kernel
theorem dX6_floor_72 : decode cX6_floor 72 = .ok (.ireturn, 1) := by decide +kernel
theorem dX6_floor_73 : decode cX6_floor 73 = .ok (.aload_n 0, 1) := by decide +kernel
theorem dX6_floor_74 : decode cX6_floor 74 = .ok (.getfield 10, 3) := by decide +kernel
theorem dX6_floor_77 : decode cX6_floor 77 = .ok (.getfield 168, 3) := by decide +kernel
theorem dX6_floor_80 : decode cX6_floor 80 = .ok (.iload_n 1, 1) := by decide +kernel
theorem dX6_floor_81 : decode cX6_floor 81 = .ok (.iconst 0, 1) := by decide +kernel
theorem dX6_floor_82 : decode cX6_floor 82 = .ok (.iconst 0, 1) := by decide +kernel
theorem dX6_floor_83 : decode cX6_floor 83 = .ok (.invokevirtual 177, 3) := by decide +kernel
theorem dX6_floor_86 : decode cX6_floor 86 = .ok (.ireturn, 1) := by decide +kernel
theorem dX6_floor_87 : decode cX6_floor 87 = .ok (.bipush (-2), 2) := by decide +kernel
theorem dX6_floor_89 : decode cX6_floor 89 = .ok (.ireturn, 1) := by decide +kernel
set_option maxRecDepth 20000 in
theorem ggX6_row_X6_isFloor : GoodIn wsX6_row wsX6_isFloor := goodIn_r _ [5] (by decide +kernel) (by decide +kernel)
set_option maxRecDepth 20000 in
theorem gX6_row_X6_isFloor : GoodIn wsX6_row (va_wsS RX6 65 yX6_isFloor wsX6_isFloor) := goodIn_app (goodIn_of _ (by decide +kernel)) ggX6_row_X6_isFloor
set_option maxRecDepth 20000 in
theorem ggX6_row_X5_personAt : GoodIn wsX6_row wsX5_personAt := goodIn_r _ [10, 11, 12, 21, 22, 23, 24, 25, 26, 27, 28] (by decide +kernel) (by decide +kernel)
set_option maxRecDepth 20000 in
theorem gX6_row_X5_personAt : GoodIn wsX6_row (wsV RX6 180 RX5 yX5_personAt wsX5_personAt) := goodIn_app (goodIn_of _ (by decide +kernel)) ggX6_row_X5_personAt
theorem dX6_row_0 : decode cX6_row 0 = .ok (.iload_n 1, 1) := by decide +kernel
theorem dX6_row_1 : decode cX6_row 1 = .ok (.invokestatic 65, 3) := by decide +kernel
theorem dX6_row_4 : decode cX6_row 4 = .ok (.ifCond .ne 5, 3) := by decide +kernel
theorem dX6_row_7 : decode cX6_row 7 = .ok (.iconst (-1), 1) := by decide +kernel
theorem dX6_row_8 : decode cX6_row 8 = .ok (.ireturn, 1) := by decide +kernel
theorem dX6_row_9 : decode cX6_row 9 = .ok (.iload_n 2, 1) := by decide +kernel
theorem dX6_row_10 : decode cX6_row 10 = .ok (.ifCond .ge 6, 3) := by decide +kernel
theorem dX6_row_13 : decode cX6_row 13 = .ok (.bipush (-2), 2) := by decide +kernel
theorem dX6_row_15 : decode cX6_row 15 = .ok (.ireturn, 1) := by decide +kernel
theorem dX6_row_16 : decode cX6_row 16 = .ok (.aload_n 0, 1) := by decide +kernel
theorem dX6_row_17 : decode cX6_row 17 = .ok (.getfield 10, 3) := by decide +kernel
theorem dX6_row_20 : decode cX6_row 20 = .ok (.iload_n 1, 1) := by decide +kernel
theorem dX6_row_21 : decode cX6_row 21 = .ok (.iload_n 2, 1) := by decide +kernel
theorem dX6_row_22 : decode cX6_row 22 = .ok (.invokevirtual 180, 3) := by decide +kernel
theorem dX6_row_25 : decode cX6_row 25 = .ok (.ireturn, 1) := by decide +kernel
set_option maxRecDepth 20000 in
theorem ggX6_person_X6_isPerson : GoodIn wsX6_person wsX6_isPerson := goodIn_r _ [6] (by decide +kernel) (by decide +kernel)
set_option maxRecDepth 20000 in
theorem gX6_person_X6_isPerson : GoodIn wsX6_person (va_wsS RX6 80 yX6_isPerson wsX6_isPerson) := goodIn_app (goodIn_of _ (by decide +kernel)) ggX6_person_X6_isPerson
set_option maxRecDepth 20000 in
theorem ggX6_person_X2_leavesOf : GoodIn wsX6_person wsX2_leavesOf := goodIn_r _ [11, 12, 13, 122, 123, 124, 125] (by decide +kernel) (by decide +kernel)
set_option maxRecDepth 20000 in
theorem gX6_person_X2_leavesOf : GoodIn wsX6_person (wsV RX6 183 RX2 yX2_leavesOf wsX2_leavesOf) := goodIn_app (goodIn_of _ (by decide +kernel)) ggX6_person_X2_leavesOf
set_option maxRecDepth 20000 in
theorem ggX6_person_X2_daysOf : GoodIn wsX6_person wsX2_daysOf := goodIn_r _ [17, 12, 13, 18, 19, 122, 123, 124, 125] (by decide +kernel) (by decide +kernel)
set_option maxRecDepth 20000 in
theorem gX6_person_X2_daysOf : GoodIn wsX6_person (wsV RX6 186 RX2 yX2_daysOf wsX2_daysOf) := goodIn_app (goodIn_of _ (by decide +kernel)) ggX6_person_X2_daysOf
set_option maxRecDepth 20000 in
theorem ggX6_person_X5_floorsOf : GoodIn wsX6_person wsX5_floorsOf := goodIn_r _ [24, 25, 26, 27, 23, 28, 29, 30, 31, 32, 33, 34, 107, 108, 109, 110, 111, 112, 113, 114] (by decide +kernel) (by decide +kernel)
set_option maxRecDepth 20000 in
theorem gX6_person_X5_floorsOf : GoodIn wsX6_person (wsV RX6 189 RX5 yX5_floorsOf wsX5_floorsOf) := goodIn_app (goodIn_of _ (by decide +kernel)) ggX6_person_X5_floorsOf
set_option maxRecDepth 20000 in
theorem ggX6_person_X4_lay : GoodIn wsX6_person wsX4_lay := goodIn_r _ [39, 40, 41, 42, 43, 38, 44, 45, 46, 47, 48, 49, 50, 51, 52, 53, 54, 55, 56, 57, 58, 59, 23, 60, 61, 62, 63, 64, 65, 10, 66, 12, 19, 18, 13, 67, 68, 69, 70, 71, 5, 72, 73, 74, 75, 76, 77, 30, 31, 32, 33, 34, 78, 79, 80, 81, 82, 83, 84, 85, 86, 87, 88, 126, 127, 128, 129, 130, 131, 107, 108, 109, 110, 111, 112, 113, 114, 122, 123, 124, 125] (by decide +kernel) (by decide +kernel)
set_option maxRecDepth 20000 in
theorem gX6_person_X4_lay : GoodIn wsX6_person (wsV RX6 149 RX4 yX4_lay wsX4_lay) := goodIn_app (goodIn_of _ (by decide +kernel)) ggX6_person_X4_lay
set_option maxRecDepth 20000 in
theorem ggX6_person_X4_floorOf : GoodIn wsX6_person wsX4_floorOf := goodIn_r _ [92, 45, 78, 5, 79, 93, 94, 95, 38, 96, 47, 84, 71, 72, 97, 98, 126, 127, 128, 129, 130, 131] (by decide +kernel) (by decide +kernel)
set_option maxRecDepth 20000 in
theorem gX6_person_X4_floorOf : GoodIn wsX6_person (wsV RX6 195 RX4 yX4_floorOf wsX4_floorOf) := goodIn_app (goodIn_of _ (by decide +kernel)) ggX6_person_X4_floorOf
theorem dX6_person_0 : decode cX6_person 0 = .ok (.iload_n 1, 1) := by decide +kernel
theorem dX6_person_1 : decode cX6_person 1 = .ok (.invokestatic 80, 3) := by decide +kernel
theorem dX6_person_4 : decode cX6_person 4 = .ok (.ifCond .ne 5, 3) := by decide +kernel
theorem dX6_person_7 : decode cX6_person 7 = .ok (.iconst (-1), 1) := by decide +kernel
theorem dX6_person_8 : decode cX6_person 8 = .ok (.ireturn, 1) := by decide +kernel
theorem dX6_person_9 : decode cX6_person 9 = .ok (.iload_n 2, 1) := by decide +kernel
theorem dX6_person_10 : decode cX6_person 10 = .ok (.tableswitch 122 0 5 #[38, 48, 60, 72, 81, 94], 38) := by decide +kernel
theorem dX6_person_48 : decode cX6_person 48 = .ok (.aload_n 0, 1) := by decide +kernel
theorem dX6_person_49 : decode cX6_person 49 = .ok (.getfield 10, 3) := by decide +kernel
theorem dX6_person_52 : decode cX6_person 52 = .ok (.getfield 86, 3) := by decide +kernel
theorem dX6_person_55 : decode cX6_person 55 = .ok (.iload_n 1, 1) := by decide +kernel
theorem dX6_person_56 : decode cX6_person 56 = .ok (.iaload, 1) := by decide +kernel
theorem dX6_person_57 : decode cX6_person 57 = .ok (.ireturn, 1) := by decide +kernel
theorem dX6_person_58 : decode cX6_person 58 = .ok (.aload_n 0, 1) := by decide +kernel
theorem dX6_person_59 : decode cX6_person 59 = .ok (.getfield 10, 3) := by decide +kernel
theorem dX6_person_62 : decode cX6_person 62 = .ok (.getfield 96, 3) := by decide +kernel
theorem dX6_person_65 : decode cX6_person 65 = .ok (.iload_n 1, 1) := by decide +kernel
theorem dX6_person_66 : decode cX6_person 66 = .ok (.invokevirtual 183, 3) := by decide +kernel
theorem dX6_person_69 : decode cX6_person 69 = .ok (.ireturn, 1) := by decide +kernel
theorem dX6_person_70 : decode cX6_person 70 = .ok (.aload_n 0, 1) := by decide +kernel
theorem dX6_person_71 : decode cX6_person 71 = .ok (.getfield 10, 3) := by decide +kernel
theorem dX6_person_74 : decode cX6_person 74 = .ok (.getfield 96, 3) := by decide +kernel
theorem dX6_person_77 : decode cX6_person 77 = .ok (.iload_n 1, 1) := by decide +kernel
theorem dX6_person_78 : decode cX6_person 78 = .ok (.invokevirtual 186, 3) := by decide +kernel
theorem dX6_person_81 : decode cX6_person 81 = .ok (.ireturn, 1) := by decide +kernel
theorem dX6_person_82 : decode cX6_person 82 = .ok (.aload_n 0, 1) := by decide +kernel
theorem dX6_person_83 : decode cX6_person 83 = .ok (.getfield 10, 3) := by decide +kernel
theorem dX6_person_86 : decode cX6_person 86 = .ok (.iload_n 1, 1) := by decide +kernel
theorem dX6_person_87 : decode cX6_person 87 = .ok (.invokevirtual 189, 3) := by decide +kernel
theorem dX6_person_90 : decode cX6_person 90 = .ok (.ireturn, 1) := by decide +kernel
theorem dX6_person_91 : decode cX6_person 91 = .ok (.aload_n 0, 1) := by decide +kernel
theorem dX6_person_92 : decode cX6_person 92 = .ok (.getfield 10, 3) := by decide +kernel
theorem dX6_person_95 : decode cX6_person 95 = .ok (.getfield 168, 3) := by decide +kernel
theorem dX6_person_98 : decode cX6_person 98 = .ok (.getfield 192, 3) := by decide +kernel
theorem dX6_person_101 : decode cX6_person 101 = .ok (.iload_n 1, 1) := by decide +kernel
theorem dX6_person_102 : decode cX6_person 102 = .ok (.iaload, 1) := by decide +kernel
theorem dX6_person_103 : decode cX6_person 103 = .ok (.ireturn, 1) := by decide +kernel
theorem dX6_person_104 : decode cX6_person 104 = .ok (.aload_n 0, 1) := by decide +kernel
theorem dX6_person_105 : decode cX6_person 105 = .ok (.getfield 36, 3) := by decide +kernel
theorem dX6_person_108 : decode cX6_person 108 = .ok (.aload_n 0, 1) := by decide +kernel
theorem dX6_person_109 : decode cX6_person 109 = .ok (.getfield 10, 3) := by decide +kernel
theorem dX6_person_112 : decode cX6_person 112 = .ok (.aload_n 0, 1) := by decide +kernel
theorem dX6_person_113 : decode cX6_person 113 = .ok (.getfield 10, 3) := by decide +kernel
theorem dX6_person_116 : decode cX6_person 116 = .ok (.getfield 142, 3) := by decide +kernel
theorem dX6_person_119 : decode cX6_person 119 = .ok (.iconst 0, 1) := by decide +kernel
theorem dX6_person_120 : decode cX6_person 120 = .ok (.invokevirtual 149, 3) := by decide +kernel
theorem dX6_person_123 : decode cX6_person 123 = .ok (.aload_n 0, 1) := by decide +kernel
theorem dX6_person_124 : decode cX6_person 124 = .ok (.getfield 36, 3) := by decide +kernel
theorem dX6_person_127 : decode cX6_person 127 = .ok (.iload_n 1, 1) := by decide +kernel
theorem dX6_person_128 : decode cX6_person 128 = .ok (.invokevirtual 195, 3) := by decide +kernel
theorem dX6_person_131 : decode cX6_person 131 = .ok (.ireturn, 1) := by decide +kernel
theorem dX6_person_132 : decode cX6_person 132 = .ok (.bipush (-2), 2) := by decide +kernel
theorem dX6_person_134 : decode cX6_person 134 = .ok (.ireturn, 1) := by decide +kernel
set_option maxRecDepth 20000 in
theorem ggX6_log_X6_isFloor : GoodIn wsX6_log wsX6_isFloor := goodIn_r _ [5] (by decide +kernel) (by decide +kernel)
set_option maxRecDepth 20000 in
theorem gX6_log_X6_isFloor : GoodIn wsX6_log (va_wsS RX6 65 yX6_isFloor wsX6_isFloor) := goodIn_app (goodIn_of _ (by decide +kernel)) ggX6_log_X6_isFloor
set_option maxRecDepth 20000 in
theorem ggX6_log_X6_isWithin : GoodIn wsX6_log wsX6_isWithin := goodIn_r _ [8] (by decide +kernel) (by decide +kernel)
set_option maxRecDepth 20000 in
theorem gX6_log_X6_isWithin : GoodIn wsX6_log (va_wsS RX6 69 yX6_isWithin wsX6_isWithin) := goodIn_app (goodIn_of _ (by decide +kernel)) ggX6_log_X6_isWithin
set_option maxRecDepth 20000 in
theorem ggX6_log_X0_logged : GoodIn wsX6_log wsX0_logged := goodIn_r _ [13, 14, 15, 16, 17, 3, 4, 5, 7, 8, 34, 35, 36, 37, 38, 39, 40] (by decide +kernel) (by decide +kernel)
set_option maxRecDepth 20000 in
theorem gX6_log_X0_logged : GoodIn wsX6_log (wsV RX6 177 RX0 yX0_logged wsX0_logged) := goodIn_app (goodIn_of _ (by decide +kernel)) ggX6_log_X0_logged
theorem dX6_log_0 : decode cX6_log 0 = .ok (.iload_n 1, 1) := by decide +kernel
theorem dX6_log_1 : decode cX6_log 1 = .ok (.invokestatic 65, 3) := by decide +kernel
theorem dX6_log_4 : decode cX6_log 4 = .ok (.ifCond .ne 5, 3) := by decide +kernel
theorem dX6_log_7 : decode cX6_log 7 = .ok (.iconst (-1), 1) := by decide +kernel
theorem dX6_log_8 : decode cX6_log 8 = .ok (.ireturn, 1) := by decide +kernel
theorem dX6_log_9 : decode cX6_log 9 = .ok (.iload_n 2, 1) := by decide +kernel
theorem dX6_log_10 : decode cX6_log 10 = .ok (.ifCond .lt 12, 3) := by decide +kernel
theorem dX6_log_13 : decode cX6_log 13 = .ok (.iload_n 3, 1) := by decide +kernel
theorem dX6_log_14 : decode cX6_log 14 = .ok (.iconst 0, 1) := by decide +kernel
theorem dX6_log_15 : decode cX6_log 15 = .ok (.iconst 2, 1) := by decide +kernel
theorem dX6_log_16 : decode cX6_log 16 = .ok (.invokestatic 69, 3) := by decide +kernel
theorem dX6_log_19 : decode cX6_log 19 = .ok (.ifCond .ne 6, 3) := by decide +kernel
theorem dX6_log_22 : decode cX6_log 22 = .ok (.bipush (-2), 2) := by decide +kernel
theorem dX6_log_24 : decode cX6_log 24 = .ok (.ireturn, 1) := by decide +kernel
theorem dX6_log_25 : decode cX6_log 25 = .ok (.aload_n 0, 1) := by decide +kernel
theorem dX6_log_26 : decode cX6_log 26 = .ok (.getfield 10, 3) := by decide +kernel
theorem dX6_log_29 : decode cX6_log 29 = .ok (.getfield 168, 3) := by decide +kernel
theorem dX6_log_32 : decode cX6_log 32 = .ok (.iload_n 1, 1) := by decide +kernel
theorem dX6_log_33 : decode cX6_log 33 = .ok (.iload_n 2, 1) := by decide +kernel
theorem dX6_log_34 : decode cX6_log 34 = .ok (.iload_n 3, 1) := by decide +kernel
theorem dX6_log_35 : decode cX6_log 35 = .ok (.invokevirtual 177, 3) := by decide +kernel
theorem dX6_log_38 : decode cX6_log 38 = .ok (.ireturn, 1) := by decide +kernel
set_option maxRecDepth 20000 in
theorem ggX6_due_X6_isWithin : GoodIn wsX6_due wsX6_isWithin := goodIn_r _ [5] (by decide +kernel) (by decide +kernel)
set_option maxRecDepth 20000 in
theorem gX6_due_X6_isWithin : GoodIn wsX6_due (va_wsS RX6 69 yX6_isWithin wsX6_isWithin) := goodIn_app (goodIn_of _ (by decide +kernel)) ggX6_due_X6_isWithin
set_option maxRecDepth 20000 in
theorem ggX6_due_X5_floorsDueIn : GoodIn wsX6_due wsX5_floorsDueIn := goodIn_r _ [10, 11, 12, 13, 4, 14, 23, 24, 25, 26, 27, 28, 29, 30, 31, 32, 33, 34, 35, 36, 37] (by decide +kernel) (by decide +kernel)
set_option maxRecDepth 20000 in
theorem gX6_due_X5_floorsDueIn : GoodIn wsX6_due (wsV RX6 198 RX5 yX5_floorsDueIn wsX5_floorsDueIn) := goodIn_app (goodIn_of _ (by decide +kernel)) ggX6_due_X5_floorsDueIn
theorem dX6_due_0 : decode cX6_due 0 = .ok (.iload_n 1, 1) := by decide +kernel
theorem dX6_due_1 : decode cX6_due 1 = .ok (.iconst 0, 1) := by decide +kernel
theorem dX6_due_2 : decode cX6_due 2 = .ok (.iconst 3, 1) := by decide +kernel
theorem dX6_due_3 : decode cX6_due 3 = .ok (.invokestatic 69, 3) := by decide +kernel
theorem dX6_due_6 : decode cX6_due 6 = .ok (.ifCond .ne 5, 3) := by decide +kernel
theorem dX6_due_9 : decode cX6_due 9 = .ok (.iconst (-1), 1) := by decide +kernel
theorem dX6_due_10 : decode cX6_due 10 = .ok (.ireturn, 1) := by decide +kernel
theorem dX6_due_11 : decode cX6_due 11 = .ok (.aload_n 0, 1) := by decide +kernel
theorem dX6_due_12 : decode cX6_due 12 = .ok (.getfield 10, 3) := by decide +kernel
theorem dX6_due_15 : decode cX6_due 15 = .ok (.iload_n 1, 1) := by decide +kernel
theorem dX6_due_16 : decode cX6_due 16 = .ok (.invokevirtual 198, 3) := by decide +kernel
theorem dX6_due_19 : decode cX6_due 19 = .ok (.ireturn, 1) := by decide +kernel
set_option maxRecDepth 20000 in
theorem ggX6_reason_X6_isFloor : GoodIn wsX6_reason wsX6_isFloor := goodIn_r _ [6] (by decide +kernel) (by decide +kernel)
set_option maxRecDepth 20000 in
theorem gX6_reason_X6_isFloor : GoodIn wsX6_reason (va_wsS RX6 65 yX6_isFloor wsX6_isFloor) := goodIn_app (goodIn_of _ (by decide +kernel)) ggX6_reason_X6_isFloor
set_option maxRecDepth 20000 in
theorem ggX6_reason_X6_isPerson : GoodIn wsX6_reason wsX6_isPerson := goodIn_r _ [9] (by decide +kernel) (by decide +kernel)
set_option maxRecDepth 20000 in
theorem gX6_reason_X6_isPerson : GoodIn wsX6_reason (va_wsS RX6 80 yX6_isPerson wsX6_isPerson) := goodIn_app (goodIn_of _ (by decide +kernel)) ggX6_reason_X6_isPerson
set_option maxRecDepth 20000 in
theorem ggX6_reason_X6_isDay : GoodIn wsX6_reason wsX6_isDay := goodIn_r _ [12] (by decide +kernel) (by decide +kernel)
set_option maxRecDepth 20000 in
theorem gX6_reason_X6_isDay : GoodIn wsX6_reason (va_wsS RX6 83 yX6_isDay wsX6_isDay) := goodIn_app (goodIn_of _ (by decide +kernel)) ggX6_reason_X6_isDay
set_option maxRecDepth 20000 in
theorem ggX6_reason_X4_lay : GoodIn wsX6_reason wsX4_lay := goodIn_r _ [17, 18, 19, 20, 21, 16, 22, 23, 24, 25, 26, 27, 28, 29, 30, 31, 32, 33, 34, 35, 36, 37, 38, 39, 40, 41, 42, 43, 44, 45, 46, 47, 48, 49, 50, 51, 52, 53, 54, 4, 5, 6, 55, 56, 57, 58, 59, 60, 61, 62, 63, 64, 65, 66, 67, 68, 69, 70, 71, 72, 73, 74, 75, 111, 112, 113, 114, 115, 116, 103, 104, 105, 106, 107, 108, 109, 110, 117, 118, 119, 120] (by decide +kernel) (by decide +kernel)
set_option maxRecDepth 20000 in
theorem gX6_reason_X4_lay : GoodIn wsX6_reason (wsV RX6 149 RX4 yX4_lay wsX4_lay) := goodIn_app (goodIn_of _ (by decide +kernel)) ggX6_reason_X4_lay
set_option maxRecDepth 20000 in
theorem ggX6_reason_X4_floorOf : GoodIn wsX6_reason wsX4_floorOf := goodIn_r _ [79, 23, 65, 5, 66, 80, 81, 82, 16, 83, 25, 71, 4, 6, 84, 85, 111, 112, 113, 114, 115, 116] (by decide +kernel) (by decide +kernel)
set_option maxRecDepth 20000 in
theorem gX6_reason_X4_floorOf : GoodIn wsX6_reason (wsV RX6 195 RX4 yX4_floorOf wsX4_floorOf) := goodIn_app (goodIn_of _ (by decide +kernel)) ggX6_reason_X4_floorOf
set_option maxRecDepth 20000 in
theorem ggX6_reason_X2_find : GoodIn wsX6_reason wsX2_find := goodIn_r _ [89, 47, 50, 48, 49, 117, 118, 119, 120] (by decide +kernel) (by decide +kernel)
set_option maxRecDepth 20000 in
theorem gX6_reason_X2_find : GoodIn wsX6_reason (wsV RX6 100 RX2 yX2_find wsX2_find) := goodIn_app (goodIn_of _ (by decide +kernel)) ggX6_reason_X2_find
set_option maxRecDepth 20000 in
theorem ggX6_reason_X5_placeOf : GoodIn wsX6_reason wsX5_placeOf := goodIn_r _ [93, 94, 60, 61, 38, 62, 63, 64, 103, 104, 105, 106, 107, 108, 109, 110] (by decide +kernel) (by decide +kernel)
set_option maxRecDepth 20000 in
theorem gX6_reason_X5_placeOf : GoodIn wsX6_reason (wsV RX6 201 RX5 yX5_placeOf wsX5_placeOf) := goodIn_app (goodIn_of _ (by decide +kernel)) ggX6_reason_X5_placeOf
theorem dX6_reason_0 : decode cX6_reason 0 = .ok (.iload_n 2, 1) := by decide +kernel
theorem dX6_reason_1 : decode cX6_reason 1 = .ok (.invokestatic 65, 3) := by decide +kernel
theorem dX6_reason_4 : decode cX6_reason 4 = .ok (.ifCond .eq 10, 3) := by decide +kernel
theorem dX6_reason_7 : decode cX6_reason 7 = .ok (.iload_n 3, 1) := by decide +kernel
theorem dX6_reason_8 : decode cX6_reason 8 = .ok (.invokestatic 80, 3) := by decide +kernel
theorem dX6_reason_11 : decode cX6_reason 11 = .ok (.ifCond .ne 5, 3) := by decide +kernel
theorem dX6_reason_14 : decode cX6_reason 14 = .ok (.iconst (-1), 1) := by decide +kernel
theorem dX6_reason_15 : decode cX6_reason 15 = .ok (.ireturn, 1) := by decide +kernel
theorem dX6_reason_16 : decode cX6_reason 16 = .ok (.iload_n 1, 1) := by decide +kernel
theorem dX6_reason_17 : decode cX6_reason 17 = .ok (.invokestatic 83, 3) := by decide +kernel
theorem dX6_reason_20 : decode cX6_reason 20 = .ok (.ifCond .ne 6, 3) := by decide +kernel
theorem dX6_reason_23 : decode cX6_reason 23 = .ok (.bipush (-2), 2) := by decide +kernel
theorem dX6_reason_25 : decode cX6_reason 25 = .ok (.ireturn, 1) := by decide +kernel
theorem dX6_reason_26 : decode cX6_reason 26 = .ok (.aload_n 0, 1) := by decide +kernel
theorem dX6_reason_27 : decode cX6_reason 27 = .ok (.getfield 36, 3) := by decide +kernel
theorem dX6_reason_30 : decode cX6_reason 30 = .ok (.aload_n 0, 1) := by decide +kernel
theorem dX6_reason_31 : decode cX6_reason 31 = .ok (.getfield 10, 3) := by decide +kernel
theorem dX6_reason_34 : decode cX6_reason 34 = .ok (.iload_n 1, 1) := by decide +kernel
theorem dX6_reason_35 : decode cX6_reason 35 = .ok (.iconst 0, 1) := by decide +kernel
theorem dX6_reason_36 : decode cX6_reason 36 = .ok (.invokevirtual 149, 3) := by decide +kernel
theorem dX6_reason_39 : decode cX6_reason 39 = .ok (.aload_n 0, 1) := by decide +kernel
theorem dX6_reason_40 : decode cX6_reason 40 = .ok (.getfield 36, 3) := by decide +kernel
theorem dX6_reason_43 : decode cX6_reason 43 = .ok (.iload_n 3, 1) := by decide +kernel
theorem dX6_reason_44 : decode cX6_reason 44 = .ok (.invokevirtual 195, 3) := by decide +kernel
theorem dX6_reason_47 : decode cX6_reason 47 = .ok (.istore 4, 2) := by decide +kernel
theorem dX6_reason_49 : decode cX6_reason 49 = .ok (.iload 4, 2) := by decide +kernel
theorem dX6_reason_51 : decode cX6_reason 51 = .ok (.iload_n 2, 1) := by decide +kernel
theorem dX6_reason_52 : decode cX6_reason 52 = .ok (.if_icmp .ne 5, 3) := by decide +kernel
theorem dX6_reason_55 : decode cX6_reason 55 = .ok (.iconst 0, 1) := by decide +kernel
theorem dX6_reason_56 : decode cX6_reason 56 = .ok (.ireturn, 1) := by decide +kernel
theorem dX6_reason_57 : decode cX6_reason 57 = .ok (.aload_n 0, 1) := by decide +kernel
theorem dX6_reason_58 : decode cX6_reason 58 = .ok (.getfield 10, 3) := by decide +kernel
theorem dX6_reason_61 : decode cX6_reason 61 = .ok (.getfield 96, 3) := by decide +kernel
theorem dX6_reason_64 : decode cX6_reason 64 = .ok (.iload_n 3, 1) := by decide +kernel
theorem dX6_reason_65 : decode cX6_reason 65 = .ok (.iload_n 1, 1) := by decide +kernel
theorem dX6_reason_66 : decode cX6_reason 66 = .ok (.iload_n 1, 1) := by decide +kernel
theorem dX6_reason_67 : decode cX6_reason 67 = .ok (.invokevirtual 100, 3) := by decide +kernel
theorem dX6_reason_70 : decode cX6_reason 70 = .ok (.bipush (-5), 2) := by decide +kernel
theorem dX6_reason_72 : decode cX6_reason 72 = .ok (.if_icmp .eq 5, 3) := by decide +kernel
theorem dX6_reason_75 : decode cX6_reason 75 = .ok (.iconst 1, 1) := by decide +kernel
theorem dX6_reason_76 : decode cX6_reason 76 = .ok (.ireturn, 1) := by decide +kernel
theorem dX6_reason_77 : decode cX6_reason 77 = .ok (.iload_n 1, 1) := by decide +kernel
theorem dX6_reason_78 : decode cX6_reason 78 = .ok (.aload_n 0, 1) := by decide +kernel
theorem dX6_reason_79 : decode cX6_reason 79 = .ok (.getfield 10, 3) := by decide +kernel
theorem dX6_reason_82 : decode cX6_reason 82 = .ok (.getfield 86, 3) := by decide +kernel
theorem dX6_reason_85 : decode cX6_reason 85 = .ok (.iload_n 3, 1) := by decide +kernel
theorem dX6_reason_86 : decode cX6_reason 86 = .ok (.iaload, 1) := by decide +kernel
theorem dX6_reason_87 : decode cX6_reason 87 = .ok (.if_icmp .le 5, 3) := by decide +kernel
theorem dX6_reason_90 : decode cX6_reason 90 = .ok (.iconst 2, 1) := by decide +kernel
theorem dX6_reason_91 : decode cX6_reason 91 = .ok (.ireturn, 1) := by decide +kernel
theorem dX6_reason_92 : decode cX6_reason 92 = .ok (.iload 4, 2) := by decide +kernel
theorem dX6_reason_94 : decode cX6_reason 94 = .ok (.bipush (-5), 2) := by decide +kernel
theorem dX6_reason_96 : decode cX6_reason 96 = .ok (.if_icmp .eq 5, 3) := by decide +kernel
theorem dX6_reason_99 : decode cX6_reason 99 = .ok (.iconst 3, 1) := by decide +kernel
theorem dX6_reason_100 : decode cX6_reason 100 = .ok (.ireturn, 1) := by decide +kernel
theorem dX6_reason_101 : decode cX6_reason 101 = .ok (.aload_n 0, 1) := by decide +kernel
theorem dX6_reason_102 : decode cX6_reason 102 = .ok (.getfield 10, 3) := by decide +kernel
theorem dX6_reason_105 : decode cX6_reason 105 = .ok (.iload_n 2, 1) := by decide +kernel
theorem dX6_reason_106 : decode cX6_reason 106 = .ok (.iload_n 3, 1) := by decide +kernel
theorem dX6_reason_107 : decode cX6_reason 107 = .ok (.invokevirtual 201, 3) := by decide +kernel
theorem dX6_reason_110 : decode cX6_reason 110 = .ok (.bipush (-5), 2) := by decide +kernel
theorem dX6_reason_112 : decode cX6_reason 112 = .ok (.if_icmp .ne 7, 3) := by decide +kernel
theorem dX6_reason_115 : decode cX6_reason 115 = .ok (.iconst 4, 1) := by decide +kernel
theorem dX6_reason_116 : decode cX6_reason 116 = .ok (.goto 4, 3) := by decide +kernel
theorem dX6_reason_119 : decode cX6_reason 119 = .ok (.iconst 5, 1) := by decide +kernel
theorem dX6_reason_120 : decode cX6_reason 120 = .ok (.ireturn, 1) := by decide +kernel
set_option maxRecDepth 20000 in
theorem ggX6_count_X6_floorsShortToday : GoodIn wsX6_count wsX6_floorsShortToday := goodIn_r _ [9, 2, 1, 10, 11, 12, 13, 14, 15, 16, 17, 18, 19, 20, 21, 22, 23, 24, 25, 26, 27, 28, 29, 30, 31, 32, 33, 34, 35, 36, 37, 38, 39, 40, 41, 42, 43, 44, 45, 46, 47, 48, 49, 50, 51, 52, 8, 53, 54, 55, 56, 57, 58, 59, 60, 61, 62, 63, 64, 65, 66, 67, 68, 69, 70, 71, 72, 73, 74, 75, 94, 95, 96, 97, 98, 99, 100, 101, 102, 103, 104, 105, 106, 107, 108, 109, 110, 111, 112, 113, 114, 115, 116, 117, 118, 119] (by decide +kernel) (by decide +kernel)
set_option maxRecDepth 20000 in
theorem gX6_count_X6_floorsShortToday : GoodIn wsX6_count (wsV RX6 223 RX6 yX6_floorsShortToday wsX6_floorsShortToday) := goodIn_app (goodIn_of _ (by decide +kernel)) ggX6_count_X6_floorsShortToday
set_option maxRecDepth 20000 in
theorem ggX6_count_X6_wardensLackingToday : GoodIn wsX6_count wsX6_wardensLackingToday := goodIn_r _ [79, 2, 1, 10, 11, 12, 13, 14, 15, 16, 17, 18, 19, 20, 21, 22, 23, 24, 25, 26, 27, 28, 29, 30, 31, 32, 33, 34, 35, 36, 37, 38, 39, 40, 41, 42, 43, 44, 45, 46, 47, 48, 49, 50, 51, 52, 8, 53, 54, 55, 56, 57, 58, 59, 60, 61, 62, 63, 64, 65, 66, 67, 68, 69, 70, 71, 72, 73, 74, 75, 94, 95, 96, 97, 98, 99, 100, 101, 102, 103, 104, 105, 106, 107, 108, 109, 110, 111, 112, 113, 114, 115, 116, 117, 118, 119] (by decide +kernel) (by decide +kernel)
set_option maxRecDepth 20000 in
theorem gX6_count_X6_wardensLackingToday : GoodIn wsX6_count (wsV RX6 226 RX6 yX6_wardensLackingToday wsX6_wardensLackingToday) := goodIn_app (goodIn_of _ (by decide +kernel)) ggX6_count_X6_wardensLackingToday
set_option maxRecDepth 20000 in
theorem ggX6_count_X4_lay : GoodIn wsX6_count wsX4_lay := goodIn_r _ [14, 15, 16, 17, 18, 13, 19, 20, 21, 22, 23, 24, 25, 26, 27, 28, 29, 30, 31, 32, 33, 34, 35, 36, 37, 38, 39, 40, 41, 42, 43, 44, 45, 46, 47, 48, 49, 50, 51, 52, 8, 53, 54, 55, 56, 57, 58, 59, 60, 61, 62, 63, 64, 65, 66, 67, 68, 69, 70, 71, 72, 73, 74, 110, 111, 112, 113, 114, 115, 102, 103, 104, 105, 106, 107, 108, 109, 116, 117, 118, 119] (by decide +kernel) (by decide +kernel)
set_option maxRecDepth 20000 in
theorem gX6_count_X4_lay : GoodIn wsX6_count (wsV RX6 149 RX4 yX4_lay wsX4_lay) := goodIn_app (goodIn_of _ (by decide +kernel)) ggX6_count_X4_lay
set_option maxRecDepth 20000 in
theorem ggX6_count_J6_bitCount_0f7a4 : GoodIn wsX6_count wsJ6_bitCount_0f7a4 := goodIn_r _ [83, 84, 85, 86] (by decide +kernel) (by decide +kernel)
set_option maxRecDepth 20000 in
theorem gX6_count_J6_bitCount_0f7a4 : GoodIn wsX6_count (va_wsS RX6 218 yJ6_bitCount_0f7a4 wsJ6_bitCount_0f7a4) := goodIn_app (goodIn_of _ (by decide +kernel)) ggX6_count_J6_bitCount_0f7a4
set_option maxRecDepth 20000 in
theorem ggX6_count_X2_awayOn : GoodIn wsX6_count wsX2_awayOn := goodIn_r _ [43, 44, 45, 46, 47, 116, 117, 118, 119] (by decide +kernel) (by decide +kernel)
set_option maxRecDepth 20000 in
theorem gX6_count_X2_awayOn : GoodIn wsX6_count (wsV RX6 232 RX2 yX2_awayOn wsX2_awayOn) := goodIn_app (goodIn_of _ (by decide +kernel)) ggX6_count_X2_awayOn
set_option maxRecDepth 20000 in
theorem ggX6_count_X0_total : GoodIn wsX6_count wsX0_total := goodIn_r _ [92, 93, 120, 121, 122, 123, 124, 125, 126] (by decide +kernel) (by decide +kernel)
set_option maxRecDepth 20000 in
theorem gX6_count_X0_total : GoodIn wsX6_count (wsV RX6 238 RX0 yX0_total wsX0_total) := goodIn_app (goodIn_of _ (by decide +kernel)) ggX6_count_X0_total
theorem dX6_count_0 : decode cX6_count 0 = .ok (.iload_n 1, 1) := by decide +kernel
theorem dX6_count_1 : decode cX6_count 1 = .ok (.tableswitch 230 0 13 #[71, 79, 90, 95, 100, 130, 151, 162, 173, 184, 194, 204, 214, 222], 71) := by decide +kernel
theorem dX6_count_72 : decode cX6_count 72 = .ok (.aload_n 0, 1) := by decide +kernel
theorem dX6_count_73 : decode cX6_count 73 = .ok (.getfield 10, 3) := by decide +kernel
theorem dX6_count_76 : decode cX6_count 76 = .ok (.getfield 142, 3) := by decide +kernel
theorem dX6_count_79 : decode cX6_count 79 = .ok (.ireturn, 1) := by decide +kernel
theorem dX6_count_80 : decode cX6_count 80 = .ok (.aload_n 0, 1) := by decide +kernel
theorem dX6_count_81 : decode cX6_count 81 = .ok (.getfield 10, 3) := by decide +kernel
theorem dX6_count_84 : decode cX6_count 84 = .ok (.getfield 142, 3) := by decide +kernel
theorem dX6_count_87 : decode cX6_count 87 = .ok (.bipush 100, 2) := by decide +kernel
theorem dX6_count_89 : decode cX6_count 89 = .ok (.idiv, 1) := by decide +kernel
theorem dX6_count_90 : decode cX6_count 90 = .ok (.ireturn, 1) := by decide +kernel
theorem dX6_count_91 : decode cX6_count 91 = .ok (.aload_n 0, 1) := by decide +kernel
theorem dX6_count_92 : decode cX6_count 92 = .ok (.invokevirtual 223, 3) := by decide +kernel
theorem dX6_count_95 : decode cX6_count 95 = .ok (.ireturn, 1) := by decide +kernel
theorem dX6_count_96 : decode cX6_count 96 = .ok (.aload_n 0, 1) := by decide +kernel
theorem dX6_count_97 : decode cX6_count 97 = .ok (.invokevirtual 226, 3) := by decide +kernel
theorem dX6_count_100 : decode cX6_count 100 = .ok (.ireturn, 1) := by decide +kernel
theorem dX6_count_101 : decode cX6_count 101 = .ok (.aload_n 0, 1) := by decide +kernel
theorem dX6_count_102 : decode cX6_count 102 = .ok (.getfield 36, 3) := by decide +kernel
theorem dX6_count_105 : decode cX6_count 105 = .ok (.aload_n 0, 1) := by decide +kernel
theorem dX6_count_106 : decode cX6_count 106 = .ok (.getfield 10, 3) := by decide +kernel
theorem dX6_count_109 : decode cX6_count 109 = .ok (.aload_n 0, 1) := by decide +kernel
theorem dX6_count_110 : decode cX6_count 110 = .ok (.getfield 10, 3) := by decide +kernel
theorem dX6_count_113 : decode cX6_count 113 = .ok (.getfield 142, 3) := by decide +kernel
theorem dX6_count_116 : decode cX6_count 116 = .ok (.iconst 0, 1) := by decide +kernel
theorem dX6_count_117 : decode cX6_count 117 = .ok (.invokevirtual 149, 3) := by decide +kernel
theorem dX6_count_120 : decode cX6_count 120 = .ok (.aload_n 0, 1) := by decide +kernel
theorem dX6_count_121 : decode cX6_count 121 = .ok (.getfield 36, 3) := by decide +kernel
theorem dX6_count_124 : decode cX6_count 124 = .ok (.getfield 229, 3) := by decide +kernel
theorem dX6_count_127 : decode cX6_count 127 = .ok (.invokestatic 218, 3) := by decide +kernel
theorem dX6_count_130 : decode cX6_count 130 = .ok (.ireturn, 1) := by decide +kernel
theorem dX6_count_131 : decode cX6_count 131 = .ok (.aload_n 0, 1) := by decide +kernel
theorem dX6_count_132 : decode cX6_count 132 = .ok (.getfield 10, 3) := by decide +kernel
theorem dX6_count_135 : decode cX6_count 135 = .ok (.getfield 96, 3) := by decide +kernel
theorem dX6_count_138 : decode cX6_count 138 = .ok (.aload_n 0, 1) := by decide +kernel
theorem dX6_count_139 : decode cX6_count 139 = .ok (.getfield 10, 3) := by decide +kernel
theorem dX6_count_142 : decode cX6_count 142 = .ok (.getfield 142, 3) := by decide +kernel
theorem dX6_count_145 : decode cX6_count 145 = .ok (.invokevirtual 232, 3) := by decide +kernel
theorem dX6_count_148 : decode cX6_count 148 = .ok (.invokestatic 218, 3) := by decide +kernel
theorem dX6_count_151 : decode cX6_count 151 = .ok (.ireturn, 1) := by decide +kernel
theorem dX6_count_152 : decode cX6_count 152 = .ok (.aload_n 0, 1) := by decide +kernel
theorem dX6_count_153 : decode cX6_count 153 = .ok (.getfield 10, 3) := by decide +kernel
theorem dX6_count_156 : decode cX6_count 156 = .ok (.getfield 96, 3) := by decide +kernel
theorem dX6_count_159 : decode cX6_count 159 = .ok (.getfield 235, 3) := by decide +kernel
theorem dX6_count_162 : decode cX6_count 162 = .ok (.ireturn, 1) := by decide +kernel
theorem dX6_count_163 : decode cX6_count 163 = .ok (.aload_n 0, 1) := by decide +kernel
theorem dX6_count_164 : decode cX6_count 164 = .ok (.getfield 10, 3) := by decide +kernel
theorem dX6_count_167 : decode cX6_count 167 = .ok (.getfield 168, 3) := by decide +kernel
theorem dX6_count_170 : decode cX6_count 170 = .ok (.invokevirtual 238, 3) := by decide +kernel
theorem dX6_count_173 : decode cX6_count 173 = .ok (.ireturn, 1) := by decide +kernel
theorem dX6_count_174 : decode cX6_count 174 = .ok (.aload_n 0, 1) := by decide +kernel
theorem dX6_count_175 : decode cX6_count 175 = .ok (.getfield 10, 3) := by decide +kernel
theorem dX6_count_178 : decode cX6_count 178 = .ok (.getfield 168, 3) := by decide +kernel
theorem dX6_count_181 : decode cX6_count 181 = .ok (.getfield 241, 3) := by decide +kernel
theorem dX6_count_184 : decode cX6_count 184 = .ok (.ireturn, 1) := by decide +kernel
theorem dX6_count_185 : decode cX6_count 185 = .ok (.aload_n 0, 1) := by decide +kernel
theorem dX6_count_186 : decode cX6_count 186 = .ok (.getfield 10, 3) := by decide +kernel
theorem dX6_count_189 : decode cX6_count 189 = .ok (.getfield 89, 3) := by decide +kernel
theorem dX6_count_192 : decode cX6_count 192 = .ok (.iconst 0, 1) := by decide +kernel
theorem dX6_count_193 : decode cX6_count 193 = .ok (.iaload, 1) := by decide +kernel
theorem dX6_count_194 : decode cX6_count 194 = .ok (.ireturn, 1) := by decide +kernel
theorem dX6_count_195 : decode cX6_count 195 = .ok (.aload_n 0, 1) := by decide +kernel
theorem dX6_count_196 : decode cX6_count 196 = .ok (.getfield 10, 3) := by decide +kernel
theorem dX6_count_199 : decode cX6_count 199 = .ok (.getfield 89, 3) := by decide +kernel
theorem dX6_count_202 : decode cX6_count 202 = .ok (.iconst 1, 1) := by decide +kernel
theorem dX6_count_203 : decode cX6_count 203 = .ok (.iaload, 1) := by decide +kernel
theorem dX6_count_204 : decode cX6_count 204 = .ok (.ireturn, 1) := by decide +kernel
theorem dX6_count_205 : decode cX6_count 205 = .ok (.aload_n 0, 1) := by decide +kernel
theorem dX6_count_206 : decode cX6_count 206 = .ok (.getfield 10, 3) := by decide +kernel
theorem dX6_count_209 : decode cX6_count 209 = .ok (.getfield 89, 3) := by decide +kernel
theorem dX6_count_212 : decode cX6_count 212 = .ok (.iconst 2, 1) := by decide +kernel
theorem dX6_count_213 : decode cX6_count 213 = .ok (.iaload, 1) := by decide +kernel
theorem dX6_count_214 : decode cX6_count 214 = .ok (.ireturn, 1) := by decide +kernel
theorem dX6_count_215 : decode cX6_count 215 = .ok (.aload_n 0, 1) := by decide +kernel
theorem dX6_count_216 : decode cX6_count 216 = .ok (.getfield 22, 3) := by decide +kernel
theorem dX6_count_219 : decode cX6_count 219 = .ok (.getfield 244, 3) := by decide +kernel
theorem dX6_count_222 : decode cX6_count 222 = .ok (.ireturn, 1) := by decide +kernel
theorem dX6_count_223 : decode cX6_count 223 = .ok (.aload_n 0, 1) := by decide +kernel
theorem dX6_count_224 : decode cX6_count 224 = .ok (.getfield 29, 3) := by decide +kernel
theorem dX6_count_227 : decode cX6_count 227 = .ok (.getfield 247, 3) := by decide +kernel
theorem dX6_count_230 : decode cX6_count 230 = .ok (.ireturn, 1) := by decide +kernel
theorem dX6_count_231 : decode cX6_count 231 = .ok (.bipush (-2), 2) := by decide +kernel
theorem dX6_count_233 : decode cX6_count 233 = .ok (.ireturn, 1) := by decide +kernel
set_option maxRecDepth 20000 in
theorem ggX6_recorded_X1_push : GoodIn wsX6_recorded wsX1_push := goodIn_r _ [7, 8, 9, 10, 11, 12, 6, 13, 14, 15, 16, 17, 18, 19, 20, 21, 22, 23, 24, 25, 26, 27, 28, 29, 30, 31, 32, 33, 34, 35, 36, 37, 38, 39, 40, 41, 42, 43, 44, 45, 46, 47, 48, 49, 50, 51, 52, 53, 54, 55, 56, 65, 66, 67, 68, 69, 70, 71, 72, 73, 74, 75, 76, 77, 78, 79, 80, 81, 82, 83, 84, 85, 86, 87] (by decide +kernel) (by decide +kernel)
set_option maxRecDepth 20000 in
theorem gX6_recorded_X1_push : GoodIn wsX6_recorded (wsV RX6 77 RX1 yX1_push wsX1_push) := goodIn_app (goodIn_of _ (by decide +kernel)) ggX6_recorded_X1_push
theorem dX6_recorded_0 : decode cX6_recorded 0 = .ok (.iload_n 1, 1) := by decide +kernel
theorem dX6_recorded_1 : decode cX6_recorded 1 = .ok (.ifCond .lt 14, 3) := by decide +kernel
theorem dX6_recorded_4 : decode cX6_recorded 4 = .ok (.aload_n 0, 1) := by decide +kernel
theorem dX6_recorded_5 : decode cX6_recorded 5 = .ok (.getfield 22, 3) := by decide +kernel
theorem dX6_recorded_8 : decode cX6_recorded 8 = .ok (.aload_n 0, 1) := by decide +kernel
theorem dX6_recorded_9 : decode cX6_recorded 9 = .ok (.getfield 16, 3) := by decide +kernel
theorem dX6_recorded_12 : decode cX6_recorded 12 = .ok (.invokevirtual 77, 3) := by decide +kernel
theorem dX6_recorded_15 : decode cX6_recorded 15 = .ok (.iload_n 1, 1) := by decide +kernel
theorem dX6_recorded_16 : decode cX6_recorded 16 = .ok (.ireturn, 1) := by decide +kernel
set_option maxRecDepth 20000 in
theorem ggX6_enterRow_X6_isFloor : GoodIn wsX6_enterRow wsX6_isFloor := goodIn_r _ [5] (by decide +kernel) (by decide +kernel)
set_option maxRecDepth 20000 in
theorem gX6_enterRow_X6_isFloor : GoodIn wsX6_enterRow (va_wsS RX6 65 yX6_isFloor wsX6_isFloor) := goodIn_app (goodIn_of _ (by decide +kernel)) ggX6_enterRow_X6_isFloor
set_option maxRecDepth 20000 in
theorem ggX6_enterRow_X6_isPerson : GoodIn wsX6_enterRow wsX6_isPerson := goodIn_r _ [8] (by decide +kernel) (by decide +kernel)
set_option maxRecDepth 20000 in
theorem gX6_enterRow_X6_isPerson : GoodIn wsX6_enterRow (va_wsS RX6 80 yX6_isPerson wsX6_isPerson) := goodIn_app (goodIn_of _ (by decide +kernel)) ggX6_enterRow_X6_isPerson
set_option maxRecDepth 20000 in
theorem ggX6_enterRow_X5_placeOf : GoodIn wsX6_enterRow wsX5_placeOf := goodIn_r _ [13, 14, 15, 16, 12, 17, 18, 19, 34, 35, 36, 37, 38, 39, 40, 41] (by decide +kernel) (by decide +kernel)
set_option maxRecDepth 20000 in
theorem gX6_enterRow_X5_placeOf : GoodIn wsX6_enterRow (wsV RX6 201 RX5 yX5_placeOf wsX5_placeOf) := goodIn_app (goodIn_of _ (by decide +kernel)) ggX6_enterRow_X5_placeOf
set_option maxRecDepth 20000 in
theorem ggX6_enterRow_X5_appendToRow : GoodIn wsX6_enterRow wsX5_appendToRow := goodIn_r _ [23, 18, 19, 24, 4, 25, 34, 35, 36, 37, 38, 39, 40, 41] (by decide +kernel) (by decide +kernel)
set_option maxRecDepth 20000 in
theorem gX6_enterRow_X5_appendToRow : GoodIn wsX6_enterRow (wsV RX6 256 RX5 yX5_appendToRow wsX5_appendToRow) := goodIn_app (goodIn_of _ (by decide +kernel)) ggX6_enterRow_X5_appendToRow
theorem dX6_enterRow_0 : decode cX6_enterRow 0 = .ok (.iload_n 1, 1) := by decide +kernel
theorem dX6_enterRow_1 : decode cX6_enterRow 1 = .ok (.invokestatic 65, 3) := by decide +kernel
theorem dX6_enterRow_4 : decode cX6_enterRow 4 = .ok (.ifCond .eq 10, 3) := by decide +kernel
theorem dX6_enterRow_7 : decode cX6_enterRow 7 = .ok (.iload_n 2, 1) := by decide +kernel
theorem dX6_enterRow_8 : decode cX6_enterRow 8 = .ok (.invokestatic 80, 3) := by decide +kernel
theorem dX6_enterRow_11 : decode cX6_enterRow 11 = .ok (.ifCond .ne 5, 3) := by decide +kernel
theorem dX6_enterRow_14 : decode cX6_enterRow 14 = .ok (.iconst (-1), 1) := by decide +kernel
theorem dX6_enterRow_15 : decode cX6_enterRow 15 = .ok (.ireturn, 1) := by decide +kernel
theorem dX6_enterRow_16 : decode cX6_enterRow 16 = .ok (.aload_n 0, 1) := by decide +kernel
theorem dX6_enterRow_17 : decode cX6_enterRow 17 = .ok (.getfield 10, 3) := by decide +kernel
theorem dX6_enterRow_20 : decode cX6_enterRow 20 = .ok (.iload_n 1, 1) := by decide +kernel
theorem dX6_enterRow_21 : decode cX6_enterRow 21 = .ok (.iload_n 2, 1) := by decide +kernel
theorem dX6_enterRow_22 : decode cX6_enterRow 22 = .ok (.invokevirtual 201, 3) := by decide +kernel
theorem dX6_enterRow_25 : decode cX6_enterRow 25 = .ok (.bipush (-5), 2) := by decide +kernel
theorem dX6_enterRow_27 : decode cX6_enterRow 27 = .ok (.if_icmp .eq 6, 3) := by decide +kernel
theorem dX6_enterRow_30 : decode cX6_enterRow 30 = .ok (.bipush (-4), 2) := by decide +kernel
theorem dX6_enterRow_32 : decode cX6_enterRow 32 = .ok (.ireturn, 1) := by decide +kernel
theorem dX6_enterRow_33 : decode cX6_enterRow 33 = .ok (.aload_n 0, 1) := by decide +kernel
theorem dX6_enterRow_34 : decode cX6_enterRow 34 = .ok (.getfield 10, 3) := by decide +kernel
theorem dX6_enterRow_37 : decode cX6_enterRow 37 = .ok (.iload_n 1, 1) := by decide +kernel
theorem dX6_enterRow_38 : decode cX6_enterRow 38 = .ok (.iload_n 2, 1) := by decide +kernel
theorem dX6_enterRow_39 : decode cX6_enterRow 39 = .ok (.invokevirtual 256, 3) := by decide +kernel
theorem dX6_enterRow_42 : decode cX6_enterRow 42 = .ok (.ireturn, 1) := by decide +kernel
set_option maxRecDepth 20000 in
theorem ggX6_quitRow_X6_isFloor : GoodIn wsX6_quitRow wsX6_isFloor := goodIn_r _ [5] (by decide +kernel) (by decide +kernel)
set_option maxRecDepth 20000 in
theorem gX6_quitRow_X6_isFloor : GoodIn wsX6_quitRow (va_wsS RX6 65 yX6_isFloor wsX6_isFloor) := goodIn_app (goodIn_of _ (by decide +kernel)) ggX6_quitRow_X6_isFloor
set_option maxRecDepth 20000 in
theorem ggX6_quitRow_X6_isPerson : GoodIn wsX6_quitRow wsX6_isPerson := goodIn_r _ [8] (by decide +kernel) (by decide +kernel)
set_option maxRecDepth 20000 in
theorem gX6_quitRow_X6_isPerson : GoodIn wsX6_quitRow (va_wsS RX6 80 yX6_isPerson wsX6_isPerson) := goodIn_app (goodIn_of _ (by decide +kernel)) ggX6_quitRow_X6_isPerson
set_option maxRecDepth 20000 in
theorem ggX6_quitRow_X5_placeOf : GoodIn wsX6_quitRow wsX5_placeOf := goodIn_r _ [13, 14, 15, 16, 12, 17, 18, 19, 36, 37, 38, 39, 40, 41, 42, 43] (by decide +kernel) (by decide +kernel)
set_option maxRecDepth 20000 in
theorem gX6_quitRow_X5_placeOf : GoodIn wsX6_quitRow (wsV RX6 201 RX5 yX5_placeOf wsX5_placeOf) := goodIn_app (goodIn_of _ (by decide +kernel)) ggX6_quitRow_X5_placeOf
set_option maxRecDepth 20000 in
theorem ggX6_quitRow_X5_removeFromRow : GoodIn wsX6_quitRow wsX5_removeFromRow := goodIn_r _ [23, 24, 25, 26, 27, 19, 18, 36, 37, 38, 39, 40, 41, 42, 43] (by decide +kernel) (by decide +kernel)
set_option maxRecDepth 20000 in
theorem gX6_quitRow_X5_removeFromRow : GoodIn wsX6_quitRow (wsV RX6 259 RX5 yX5_removeFromRow wsX5_removeFromRow) := goodIn_app (goodIn_of _ (by decide +kernel)) ggX6_quitRow_X5_removeFromRow
theorem dX6_quitRow_0 : decode cX6_quitRow 0 = .ok (.iload_n 1, 1) := by decide +kernel
theorem dX6_quitRow_1 : decode cX6_quitRow 1 = .ok (.invokestatic 65, 3) := by decide +kernel
theorem dX6_quitRow_4 : decode cX6_quitRow 4 = .ok (.ifCond .eq 10, 3) := by decide +kernel
theorem dX6_quitRow_7 : decode cX6_quitRow 7 = .ok (.iload_n 2, 1) := by decide +kernel
theorem dX6_quitRow_8 : decode cX6_quitRow 8 = .ok (.invokestatic 80, 3) := by decide +kernel
theorem dX6_quitRow_11 : decode cX6_quitRow 11 = .ok (.ifCond .ne 5, 3) := by decide +kernel
theorem dX6_quitRow_14 : decode cX6_quitRow 14 = .ok (.iconst (-1), 1) := by decide +kernel
theorem dX6_quitRow_15 : decode cX6_quitRow 15 = .ok (.ireturn, 1) := by decide +kernel
theorem dX6_quitRow_16 : decode cX6_quitRow 16 = .ok (.aload_n 0, 1) := by decide +kernel
theorem dX6_quitRow_17 : decode cX6_quitRow 17 = .ok (.getfield 10, 3) := by decide +kernel
theorem dX6_quitRow_20 : decode cX6_quitRow 20 = .ok (.iload_n 1, 1) := by decide +kernel
theorem dX6_quitRow_21 : decode cX6_quitRow 21 = .ok (.iload_n 2, 1) := by decide +kernel
theorem dX6_quitRow_22 : decode cX6_quitRow 22 = .ok (.invokevirtual 201, 3) := by decide +kernel
theorem dX6_quitRow_25 : decode cX6_quitRow 25 = .ok (.istore_n 3, 1) := by decide +kernel
theorem dX6_quitRow_26 : decode cX6_quitRow 26 = .ok (.iload_n 3, 1) := by decide +kernel
theorem dX6_quitRow_27 : decode cX6_quitRow 27 = .ok (.bipush (-5), 2) := by decide +kernel
theorem dX6_quitRow_29 : decode cX6_quitRow 29 = .ok (.if_icmp .ne 8, 3) := by decide +kernel
theorem dX6_quitRow_32 : decode cX6_quitRow 32 = .ok (.bipush (-5), 2) := by decide +kernel
theorem dX6_quitRow_34 : decode cX6_quitRow 34 = .ok (.goto 12, 3) := by decide +kernel
theorem dX6_quitRow_37 : decode cX6_quitRow 37 = .ok (.aload_n 0, 1) := by decide +kernel
theorem dX6_quitRow_38 : decode cX6_quitRow 38 = .ok (.getfield 10, 3) := by decide +kernel
theorem dX6_quitRow_41 : decode cX6_quitRow 41 = .ok (.iload_n 1, 1) := by decide +kernel
theorem dX6_quitRow_42 : decode cX6_quitRow 42 = .ok (.iload_n 3, 1) := by decide +kernel
theorem dX6_quitRow_43 : decode cX6_quitRow 43 = .ok (.invokevirtual 259, 3) := by decide +kernel
theorem dX6_quitRow_46 : decode cX6_quitRow 46 = .ok (.ireturn, 1) := by decide +kernel
set_option maxRecDepth 20000 in
theorem ggX6_grantLeave_X6_leaveError : GoodIn wsX6_grantLeave wsX6_leaveError := goodIn_r _ [6, 1, 7, 8, 5, 9, 10, 11, 12, 13, 14, 15, 16, 17, 18, 19, 20, 21, 22, 23, 24, 111, 112, 113, 114, 115, 116, 117, 118, 119, 120, 121, 122, 123, 124, 125, 126, 127, 128, 129, 130] (by decide +kernel) (by decide +kernel)
set_option maxRecDepth 20000 in
theorem gX6_grantLeave_X6_leaveError : GoodIn wsX6_grantLeave (wsV RX6 209 RX6 yX6_leaveError wsX6_leaveError) := goodIn_app (goodIn_of _ (by decide +kernel)) ggX6_grantLeave_X6_leaveError
set_option maxRecDepth 20000 in
theorem ggX6_grantLeave_X6_shortByMore : GoodIn wsX6_grantLeave wsX6_shortByMore := goodIn_r _ [28, 29, 1, 30, 31, 32, 33, 34, 35, 36, 37, 38, 39, 40, 41, 42, 43, 44, 45, 46, 47, 48, 49, 50, 51, 52, 53, 54, 55, 56, 57, 58, 59, 60, 61, 62, 19, 63, 21, 23, 24, 22, 64, 65, 66, 67, 68, 5, 69, 70, 71, 72, 73, 74, 75, 76, 77, 78, 79, 80, 81, 82, 83, 84, 85, 86, 87, 88, 89, 90, 91, 92, 93, 94, 95, 96, 97, 98, 14, 15, 99, 100, 101, 102, 103, 104, 105, 106, 111, 112, 113, 114, 115, 116, 117, 118, 131, 132, 133, 134, 135, 136, 119, 120, 121, 122, 123, 124, 125, 126, 127, 128, 129, 130] (by decide +kernel) (by decide +kernel)
set_option maxRecDepth 20000 in
theorem gX6_grantLeave_X6_shortByMore : GoodIn wsX6_grantLeave (wsV RX6 212 RX6 yX6_shortByMore wsX6_shortByMore) := goodIn_app (goodIn_of _ (by decide +kernel)) ggX6_grantLeave_X6_shortByMore
set_option maxRecDepth 20000 in
theorem ggX6_grantLeave_X2_add : GoodIn wsX6_grantLeave wsX2_add := goodIn_r _ [110, 21, 22, 23, 24, 14, 5, 15, 127, 128, 129, 130] (by decide +kernel) (by decide +kernel)
set_option maxRecDepth 20000 in
theorem gX6_grantLeave_X2_add : GoodIn wsX6_grantLeave (wsV RX6 262 RX2 yX2_add wsX2_add) := goodIn_app (goodIn_of _ (by decide +kernel)) ggX6_grantLeave_X2_add
theorem dX6_grantLeave_0 : decode cX6_grantLeave 0 = .ok (.aload_n 0, 1) := by decide +kernel
theorem dX6_grantLeave_1 : decode cX6_grantLeave 1 = .ok (.iload_n 1, 1) := by decide +kernel
theorem dX6_grantLeave_2 : decode cX6_grantLeave 2 = .ok (.iload_n 2, 1) := by decide +kernel
theorem dX6_grantLeave_3 : decode cX6_grantLeave 3 = .ok (.iload_n 3, 1) := by decide +kernel
theorem dX6_grantLeave_4 : decode cX6_grantLeave 4 = .ok (.invokevirtual 209, 3) := by decide +kernel
theorem dX6_grantLeave_7 : decode cX6_grantLeave 7 = .ok (.istore 4, 2) := by decide +kernel
theorem dX6_grantLeave_9 : decode cX6_grantLeave 9 = .ok (.iload 4, 2) := by decide +kernel
theorem dX6_grantLeave_11 : decode cX6_grantLeave 11 = .ok (.ifCond .ge 6, 3) := by decide +kernel
theorem dX6_grantLeave_14 : decode cX6_grantLeave 14 = .ok (.iload 4, 2) := by decide +kernel
theorem dX6_grantLeave_16 : decode cX6_grantLeave 16 = .ok (.ireturn, 1) := by decide +kernel
theorem dX6_grantLeave_17 : decode cX6_grantLeave 17 = .ok (.aload_n 0, 1) := by decide +kernel
theorem dX6_grantLeave_18 : decode cX6_grantLeave 18 = .ok (.getfield 10, 3) := by decide +kernel
theorem dX6_grantLeave_21 : decode cX6_grantLeave 21 = .ok (.getfield 96, 3) := by decide +kernel
theorem dX6_grantLeave_24 : decode cX6_grantLeave 24 = .ok (.getfield 235, 3) := by decide +kernel
theorem dX6_grantLeave_27 : decode cX6_grantLeave 27 = .ok (.bipush 40, 2) := by decide +kernel
theorem dX6_grantLeave_29 : decode cX6_grantLeave 29 = .ok (.if_icmp .lt 6, 3) := by decide +kernel
theorem dX6_grantLeave_32 : decode cX6_grantLeave 32 = .ok (.bipush (-3), 2) := by decide +kernel
theorem dX6_grantLeave_34 : decode cX6_grantLeave 34 = .ok (.ireturn, 1) := by decide +kernel
theorem dX6_grantLeave_35 : decode cX6_grantLeave 35 = .ok (.aload_n 0, 1) := by decide +kernel
theorem dX6_grantLeave_36 : decode cX6_grantLeave 36 = .ok (.getfield 10, 3) := by decide +kernel
theorem dX6_grantLeave_39 : decode cX6_grantLeave 39 = .ok (.getfield 89, 3) := by decide +kernel
theorem dX6_grantLeave_42 : decode cX6_grantLeave 42 = .ok (.iconst 2, 1) := by decide +kernel
theorem dX6_grantLeave_43 : decode cX6_grantLeave 43 = .ok (.iaload, 1) := by decide +kernel
theorem dX6_grantLeave_44 : decode cX6_grantLeave 44 = .ok (.iconst 1, 1) := by decide +kernel
theorem dX6_grantLeave_45 : decode cX6_grantLeave 45 = .ok (.if_icmp .ne 16, 3) := by decide +kernel
theorem dX6_grantLeave_48 : decode cX6_grantLeave 48 = .ok (.aload_n 0, 1) := by decide +kernel
theorem dX6_grantLeave_49 : decode cX6_grantLeave 49 = .ok (.iload_n 1, 1) := by decide +kernel
theorem dX6_grantLeave_50 : decode cX6_grantLeave 50 = .ok (.iload_n 2, 1) := by decide +kernel
theorem dX6_grantLeave_51 : decode cX6_grantLeave 51 = .ok (.iload_n 3, 1) := by decide +kernel
theorem dX6_grantLeave_52 : decode cX6_grantLeave 52 = .ok (.invokevirtual 212, 3) := by decide +kernel
theorem dX6_grantLeave_55 : decode cX6_grantLeave 55 = .ok (.ifCond .le 6, 3) := by decide +kernel
theorem dX6_grantLeave_58 : decode cX6_grantLeave 58 = .ok (.bipush (-6), 2) := by decide +kernel
theorem dX6_grantLeave_60 : decode cX6_grantLeave 60 = .ok (.ireturn, 1) := by decide +kernel
theorem dX6_grantLeave_61 : decode cX6_grantLeave 61 = .ok (.aload_n 0, 1) := by decide +kernel
theorem dX6_grantLeave_62 : decode cX6_grantLeave 62 = .ok (.getfield 10, 3) := by decide +kernel
theorem dX6_grantLeave_65 : decode cX6_grantLeave 65 = .ok (.getfield 96, 3) := by decide +kernel
theorem dX6_grantLeave_68 : decode cX6_grantLeave 68 = .ok (.iload_n 1, 1) := by decide +kernel
theorem dX6_grantLeave_69 : decode cX6_grantLeave 69 = .ok (.iload_n 2, 1) := by decide +kernel
theorem dX6_grantLeave_70 : decode cX6_grantLeave 70 = .ok (.iload_n 3, 1) := by decide +kernel
theorem dX6_grantLeave_71 : decode cX6_grantLeave 71 = .ok (.invokevirtual 262, 3) := by decide +kernel
theorem dX6_grantLeave_74 : decode cX6_grantLeave 74 = .ok (.ireturn, 1) := by decide +kernel
set_option maxRecDepth 20000 in
theorem ggX6_leaveError_X6_isPerson : GoodIn wsX6_leaveError wsX6_isPerson := goodIn_r _ [5] (by decide +kernel) (by decide +kernel)
set_option maxRecDepth 20000 in
theorem gX6_leaveError_X6_isPerson : GoodIn wsX6_leaveError (va_wsS RX6 80 yX6_isPerson wsX6_isPerson) := goodIn_app (goodIn_of _ (by decide +kernel)) ggX6_leaveError_X6_isPerson
set_option maxRecDepth 20000 in
theorem ggX6_leaveError_X6_isDay : GoodIn wsX6_leaveError wsX6_isDay := goodIn_r _ [8] (by decide +kernel) (by decide +kernel)
set_option maxRecDepth 20000 in
theorem gX6_leaveError_X6_isDay : GoodIn wsX6_leaveError (va_wsS RX6 83 yX6_isDay wsX6_isDay) := goodIn_app (goodIn_of _ (by decide +kernel)) ggX6_leaveError_X6_isDay
set_option maxRecDepth 20000 in
theorem ggX6_leaveError_X6_isWithin : GoodIn wsX6_leaveError wsX6_isWithin := goodIn_r _ [11] (by decide +kernel) (by decide +kernel)
set_option maxRecDepth 20000 in
theorem gX6_leaveError_X6_isWithin : GoodIn wsX6_leaveError (va_wsS RX6 69 yX6_isWithin wsX6_isWithin) := goodIn_app (goodIn_of _ (by decide +kernel)) ggX6_leaveError_X6_isWithin
set_option maxRecDepth 20000 in
theorem ggX6_leaveError_X2_find : GoodIn wsX6_leaveError wsX2_find := goodIn_r _ [16, 17, 18, 19, 20, 37, 38, 39, 40] (by decide +kernel) (by decide +kernel)
set_option maxRecDepth 20000 in
theorem gX6_leaveError_X2_find : GoodIn wsX6_leaveError (wsV RX6 100 RX2 yX2_find wsX2_find) := goodIn_app (goodIn_of _ (by decide +kernel)) ggX6_leaveError_X2_find
theorem dX6_leaveError_0 : decode cX6_leaveError 0 = .ok (.iload_n 1, 1) := by decide +kernel
theorem dX6_leaveError_1 : decode cX6_leaveError 1 = .ok (.invokestatic 80, 3) := by decide +kernel
theorem dX6_leaveError_4 : decode cX6_leaveError 4 = .ok (.ifCond .ne 5, 3) := by decide +kernel
theorem dX6_leaveError_7 : decode cX6_leaveError 7 = .ok (.iconst (-1), 1) := by decide +kernel
theorem dX6_leaveError_8 : decode cX6_leaveError 8 = .ok (.ireturn, 1) := by decide +kernel
theorem dX6_leaveError_9 : decode cX6_leaveError 9 = .ok (.iload_n 2, 1) := by decide +kernel
theorem dX6_leaveError_10 : decode cX6_leaveError 10 = .ok (.invokestatic 83, 3) := by decide +kernel
theorem dX6_leaveError_13 : decode cX6_leaveError 13 = .ok (.ifCond .eq 14, 3) := by decide +kernel
theorem dX6_leaveError_16 : decode cX6_leaveError 16 = .ok (.iload_n 3, 1) := by decide +kernel
theorem dX6_leaveError_17 : decode cX6_leaveError 17 = .ok (.iload_n 2, 1) := by decide +kernel
theorem dX6_leaveError_18 : decode cX6_leaveError 18 = .ok (.sipush 399, 3) := by decide +kernel
theorem dX6_leaveError_21 : decode cX6_leaveError 21 = .ok (.invokestatic 69, 3) := by decide +kernel
theorem dX6_leaveError_24 : decode cX6_leaveError 24 = .ok (.ifCond .ne 6, 3) := by decide +kernel
theorem dX6_leaveError_27 : decode cX6_leaveError 27 = .ok (.bipush (-2), 2) := by decide +kernel
theorem dX6_leaveError_29 : decode cX6_leaveError 29 = .ok (.ireturn, 1) := by decide +kernel
theorem dX6_leaveError_30 : decode cX6_leaveError 30 = .ok (.aload_n 0, 1) := by decide +kernel
theorem dX6_leaveError_31 : decode cX6_leaveError 31 = .ok (.getfield 10, 3) := by decide +kernel
theorem dX6_leaveError_34 : decode cX6_leaveError 34 = .ok (.getfield 96, 3) := by decide +kernel
theorem dX6_leaveError_37 : decode cX6_leaveError 37 = .ok (.iload_n 1, 1) := by decide +kernel
theorem dX6_leaveError_38 : decode cX6_leaveError 38 = .ok (.iload_n 2, 1) := by decide +kernel
theorem dX6_leaveError_39 : decode cX6_leaveError 39 = .ok (.iload_n 3, 1) := by decide +kernel
theorem dX6_leaveError_40 : decode cX6_leaveError 40 = .ok (.invokevirtual 100, 3) := by decide +kernel
theorem dX6_leaveError_43 : decode cX6_leaveError 43 = .ok (.bipush (-5), 2) := by decide +kernel
theorem dX6_leaveError_45 : decode cX6_leaveError 45 = .ok (.if_icmp .ne 7, 3) := by decide +kernel
theorem dX6_leaveError_48 : decode cX6_leaveError 48 = .ok (.iconst 0, 1) := by decide +kernel
theorem dX6_leaveError_49 : decode cX6_leaveError 49 = .ok (.goto 5, 3) := by decide +kernel
theorem dX6_leaveError_52 : decode cX6_leaveError 52 = .ok (.bipush (-4), 2) := by decide +kernel
theorem dX6_leaveError_54 : decode cX6_leaveError 54 = .ok (.ireturn, 1) := by decide +kernel
set_option maxRecDepth 20000 in
theorem ggX6_holdDrill_X6_isFloor : GoodIn wsX6_holdDrill wsX6_isFloor := goodIn_r _ [6] (by decide +kernel) (by decide +kernel)
set_option maxRecDepth 20000 in
theorem gX6_holdDrill_X6_isFloor : GoodIn wsX6_holdDrill (va_wsS RX6 65 yX6_isFloor wsX6_isFloor) := goodIn_app (goodIn_of _ (by decide +kernel)) ggX6_holdDrill_X6_isFloor
set_option maxRecDepth 20000 in
theorem ggX6_holdDrill_X6_isWithin : GoodIn wsX6_holdDrill wsX6_isWithin := goodIn_r _ [9] (by decide +kernel) (by decide +kernel)
set_option maxRecDepth 20000 in
theorem gX6_holdDrill_X6_isWithin : GoodIn wsX6_holdDrill (va_wsS RX6 69 yX6_isWithin wsX6_isWithin) := goodIn_app (goodIn_of _ (by decide +kernel)) ggX6_holdDrill_X6_isWithin
set_option maxRecDepth 20000 in
theorem ggX6_holdDrill_X4_lay : GoodIn wsX6_holdDrill wsX4_lay := goodIn_r _ [14, 15, 16, 17, 18, 13, 19, 20, 21, 22, 23, 24, 25, 26, 27, 28, 29, 30, 31, 32, 33, 34, 35, 36, 37, 38, 39, 40, 41, 42, 43, 44, 45, 46, 47, 48, 49, 50, 51, 4, 5, 6, 52, 53, 54, 55, 56, 57, 58, 59, 60, 61, 62, 63, 64, 65, 66, 67, 68, 69, 70, 71, 72, 108, 109, 110, 111, 112, 113, 100, 101, 102, 103, 104, 105, 106, 107, 114, 115, 116, 117] (by decide +kernel) (by decide +kernel)
set_option maxRecDepth 20000 in
theorem gX6_holdDrill_X4_lay : GoodIn wsX6_holdDrill (wsV RX6 149 RX4 yX4_lay wsX4_lay) := goodIn_app (goodIn_of _ (by decide +kernel)) ggX6_holdDrill_X4_lay
set_option maxRecDepth 20000 in
theorem ggX6_holdDrill_X4_takenAt : GoodIn wsX6_holdDrill wsX4_takenAt := goodIn_r _ [76, 22, 68, 4, 5, 6, 8, 9, 108, 109, 110, 111, 112, 113] (by decide +kernel) (by decide +kernel)
set_option maxRecDepth 20000 in
theorem gX6_holdDrill_X4_takenAt : GoodIn wsX6_holdDrill (wsV RX6 153 RX4 yX4_takenAt wsX4_takenAt) := goodIn_app (goodIn_of _ (by decide +kernel)) ggX6_holdDrill_X4_takenAt
set_option maxRecDepth 20000 in
theorem ggX6_holdDrill_X4_lack : GoodIn wsX6_holdDrill wsX4_lack := goodIn_r _ [55, 21, 22, 108, 109, 110, 111, 112, 113] (by decide +kernel) (by decide +kernel)
set_option maxRecDepth 20000 in
theorem gX6_holdDrill_X4_lack : GoodIn wsX6_holdDrill (wsV RX6 159 RX4 yX4_lack wsX4_lack) := goodIn_app (goodIn_of _ (by decide +kernel)) ggX6_holdDrill_X4_lack
set_option maxRecDepth 20000 in
theorem ggX6_holdDrill_X0_add : GoodIn wsX6_holdDrill wsX0_add := goodIn_r _ [82, 83, 84, 85, 86, 87, 88, 89, 4, 5, 6, 90, 91, 118, 119, 120, 121, 122, 123, 124] (by decide +kernel) (by decide +kernel)
set_option maxRecDepth 20000 in
theorem gX6_holdDrill_X0_add : GoodIn wsX6_holdDrill (wsV RX6 265 RX0 yX0_add wsX0_add) := goodIn_app (goodIn_of _ (by decide +kernel)) ggX6_holdDrill_X0_add
theorem dX6_holdDrill_0 : decode cX6_holdDrill 0 = .ok (.iload_n 1, 1) := by decide +kernel
theorem dX6_holdDrill_1 : decode cX6_holdDrill 1 = .ok (.invokestatic 65, 3) := by decide +kernel
theorem dX6_holdDrill_4 : decode cX6_holdDrill 4 = .ok (.ifCond .ne 5, 3) := by decide +kernel
theorem dX6_holdDrill_7 : decode cX6_holdDrill 7 = .ok (.iconst (-1), 1) := by decide +kernel
theorem dX6_holdDrill_8 : decode cX6_holdDrill 8 = .ok (.ireturn, 1) := by decide +kernel
theorem dX6_holdDrill_9 : decode cX6_holdDrill 9 = .ok (.iload_n 2, 1) := by decide +kernel
theorem dX6_holdDrill_10 : decode cX6_holdDrill 10 = .ok (.iconst 1, 1) := by decide +kernel
theorem dX6_holdDrill_11 : decode cX6_holdDrill 11 = .ok (.bipush 60, 2) := by decide +kernel
theorem dX6_holdDrill_13 : decode cX6_holdDrill 13 = .ok (.invokestatic 69, 3) := by decide +kernel
theorem dX6_holdDrill_16 : decode cX6_holdDrill 16 = .ok (.ifCond .ne 6, 3) := by decide +kernel
theorem dX6_holdDrill_19 : decode cX6_holdDrill 19 = .ok (.bipush (-2), 2) := by decide +kernel
theorem dX6_holdDrill_21 : decode cX6_holdDrill 21 = .ok (.ireturn, 1) := by decide +kernel
theorem dX6_holdDrill_22 : decode cX6_holdDrill 22 = .ok (.aload_n 0, 1) := by decide +kernel
theorem dX6_holdDrill_23 : decode cX6_holdDrill 23 = .ok (.getfield 36, 3) := by decide +kernel
theorem dX6_holdDrill_26 : decode cX6_holdDrill 26 = .ok (.aload_n 0, 1) := by decide +kernel
theorem dX6_holdDrill_27 : decode cX6_holdDrill 27 = .ok (.getfield 10, 3) := by decide +kernel
theorem dX6_holdDrill_30 : decode cX6_holdDrill 30 = .ok (.aload_n 0, 1) := by decide +kernel
theorem dX6_holdDrill_31 : decode cX6_holdDrill 31 = .ok (.getfield 10, 3) := by decide +kernel
theorem dX6_holdDrill_34 : decode cX6_holdDrill 34 = .ok (.getfield 142, 3) := by decide +kernel
theorem dX6_holdDrill_37 : decode cX6_holdDrill 37 = .ok (.iconst 0, 1) := by decide +kernel
theorem dX6_holdDrill_38 : decode cX6_holdDrill 38 = .ok (.invokevirtual 149, 3) := by decide +kernel
theorem dX6_holdDrill_41 : decode cX6_holdDrill 41 = .ok (.aload_n 0, 1) := by decide +kernel
theorem dX6_holdDrill_42 : decode cX6_holdDrill 42 = .ok (.getfield 36, 3) := by decide +kernel
theorem dX6_holdDrill_45 : decode cX6_holdDrill 45 = .ok (.iload_n 1, 1) := by decide +kernel
theorem dX6_holdDrill_46 : decode cX6_holdDrill 46 = .ok (.iconst 0, 1) := by decide +kernel
theorem dX6_holdDrill_47 : decode cX6_holdDrill 47 = .ok (.invokevirtual 153, 3) := by decide +kernel
theorem dX6_holdDrill_50 : decode cX6_holdDrill 50 = .ok (.istore_n 3, 1) := by decide +kernel
theorem dX6_holdDrill_51 : decode cX6_holdDrill 51 = .ok (.iload_n 3, 1) := by decide +kernel
theorem dX6_holdDrill_52 : decode cX6_holdDrill 52 = .ok (.bipush (-5), 2) := by decide +kernel
theorem dX6_holdDrill_54 : decode cX6_holdDrill 54 = .ok (.if_icmp .eq 14, 3) := by decide +kernel
theorem dX6_holdDrill_57 : decode cX6_holdDrill 57 = .ok (.aload_n 0, 1) := by decide +kernel
theorem dX6_holdDrill_58 : decode cX6_holdDrill 58 = .ok (.getfield 36, 3) := by decide +kernel
theorem dX6_holdDrill_61 : decode cX6_holdDrill 61 = .ok (.iload_n 1, 1) := by decide +kernel
theorem dX6_holdDrill_62 : decode cX6_holdDrill 62 = .ok (.invokevirtual 159, 3) := by decide +kernel
theorem dX6_holdDrill_65 : decode cX6_holdDrill 65 = .ok (.ifCond .le 6, 3) := by decide +kernel
theorem dX6_holdDrill_68 : decode cX6_holdDrill 68 = .ok (.bipush (-4), 2) := by decide +kernel
theorem dX6_holdDrill_70 : decode cX6_holdDrill 70 = .ok (.ireturn, 1) := by decide +kernel
theorem dX6_holdDrill_71 : decode cX6_holdDrill 71 = .ok (.aload_n 0, 1) := by decide +kernel
theorem dX6_holdDrill_72 : decode cX6_holdDrill 72 = .ok (.getfield 10, 3) := by decide +kernel
theorem dX6_holdDrill_75 : decode cX6_holdDrill 75 = .ok (.getfield 168, 3) := by decide +kernel
theorem dX6_holdDrill_78 : decode cX6_holdDrill 78 = .ok (.iload_n 1, 1) := by decide +kernel
theorem dX6_holdDrill_79 : decode cX6_holdDrill 79 = .ok (.aload_n 0, 1) := by decide +kernel
theorem dX6_holdDrill_80 : decode cX6_holdDrill 80 = .ok (.getfield 10, 3) := by decide +kernel
theorem dX6_holdDrill_83 : decode cX6_holdDrill 83 = .ok (.getfield 142, 3) := by decide +kernel
theorem dX6_holdDrill_86 : decode cX6_holdDrill 86 = .ok (.iload_n 2, 1) := by decide +kernel
theorem dX6_holdDrill_87 : decode cX6_holdDrill 87 = .ok (.iload_n 3, 1) := by decide +kernel
theorem dX6_holdDrill_88 : decode cX6_holdDrill 88 = .ok (.invokevirtual 265, 3) := by decide +kernel
theorem dX6_holdDrill_91 : decode cX6_holdDrill 91 = .ok (.iload_n 3, 1) := by decide +kernel
theorem dX6_holdDrill_92 : decode cX6_holdDrill 92 = .ok (.ireturn, 1) := by decide +kernel
set_option maxRecDepth 20000 in
theorem ggX6_letDaysPass_X6_isWithin : GoodIn wsX6_letDaysPass wsX6_isWithin := goodIn_r _ [5] (by decide +kernel) (by decide +kernel)
set_option maxRecDepth 20000 in
theorem gX6_letDaysPass_X6_isWithin : GoodIn wsX6_letDaysPass (va_wsS RX6 69 yX6_isWithin wsX6_isWithin) := goodIn_app (goodIn_of _ (by decide +kernel)) ggX6_letDaysPass_X6_isWithin
set_option maxRecDepth 20000 in
theorem ggX6_letDaysPass_X6_floorsShortToday : GoodIn wsX6_letDaysPass wsX6_floorsShortToday := goodIn_r _ [9, 10, 1, 11, 12, 13, 14, 15, 16, 17, 18, 19, 20, 21, 22, 23, 24, 25, 26, 27, 28, 29, 30, 31, 32, 33, 34, 35, 36, 37, 38, 39, 40, 41, 42, 43, 44, 45, 46, 47, 48, 49, 50, 51, 52, 53, 4, 54, 55, 56, 57, 58, 59, 60, 61, 62, 63, 64, 65, 66, 67, 68, 69, 70, 71, 72, 73, 74, 75, 76, 77, 78, 79, 80, 81, 82, 83, 84, 85, 86, 87, 88, 89, 90, 91, 92, 93, 94, 95, 96, 97, 98, 99, 100, 101, 102] (by decide +kernel) (by decide +kernel)
set_option maxRecDepth 20000 in
theorem gX6_letDaysPass_X6_floorsShortToday : GoodIn wsX6_letDaysPass (wsV RX6 223 RX6 yX6_floorsShortToday wsX6_floorsShortToday) := goodIn_app (goodIn_of _ (by decide +kernel)) ggX6_letDaysPass_X6_floorsShortToday
theorem dX6_letDaysPass_0 : decode cX6_letDaysPass 0 = .ok (.iload_n 1, 1) := by decide +kernel
theorem dX6_letDaysPass_1 : decode cX6_letDaysPass 1 = .ok (.iconst 1, 1) := by decide +kernel
theorem dX6_letDaysPass_2 : decode cX6_letDaysPass 2 = .ok (.bipush 99, 2) := by decide +kernel
theorem dX6_letDaysPass_4 : decode cX6_letDaysPass 4 = .ok (.invokestatic 69, 3) := by decide +kernel
theorem dX6_letDaysPass_7 : decode cX6_letDaysPass 7 = .ok (.ifCond .ne 6, 3) := by decide +kernel
theorem dX6_letDaysPass_10 : decode cX6_letDaysPass 10 = .ok (.bipush (-2), 2) := by decide +kernel
theorem dX6_letDaysPass_12 : decode cX6_letDaysPass 12 = .ok (.ireturn, 1) := by decide +kernel
theorem dX6_letDaysPass_13 : decode cX6_letDaysPass 13 = .ok (.aload_n 0, 1) := by decide +kernel
theorem dX6_letDaysPass_14 : decode cX6_letDaysPass 14 = .ok (.getfield 10, 3) := by decide +kernel
theorem dX6_letDaysPass_17 : decode cX6_letDaysPass 17 = .ok (.getfield 142, 3) := by decide +kernel
theorem dX6_letDaysPass_20 : decode cX6_letDaysPass 20 = .ok (.iload_n 1, 1) := by decide +kernel
theorem dX6_letDaysPass_21 : decode cX6_letDaysPass 21 = .ok (.iadd, 1) := by decide +kernel
theorem dX6_letDaysPass_22 : decode cX6_letDaysPass 22 = .ok (.sipush 399, 3) := by decide +kernel
theorem dX6_letDaysPass_25 : decode cX6_letDaysPass 25 = .ok (.if_icmp .le 6, 3) := by decide +kernel
theorem dX6_letDaysPass_28 : decode cX6_letDaysPass 28 = .ok (.bipush (-3), 2) := by decide +kernel
theorem dX6_letDaysPass_30 : decode cX6_letDaysPass 30 = .ok (.ireturn, 1) := by decide +kernel
theorem dX6_letDaysPass_31 : decode cX6_letDaysPass 31 = .ok (.aload_n 0, 1) := by decide +kernel
theorem dX6_letDaysPass_32 : decode cX6_letDaysPass 32 = .ok (.getfield 10, 3) := by decide +kernel
theorem dX6_letDaysPass_35 : decode cX6_letDaysPass 35 = .ok (.dup, 1) := by decide +kernel
theorem dX6_letDaysPass_36 : decode cX6_letDaysPass 36 = .ok (.getfield 142, 3) := by decide +kernel
theorem dX6_letDaysPass_39 : decode cX6_letDaysPass 39 = .ok (.iload_n 1, 1) := by decide +kernel
theorem dX6_letDaysPass_40 : decode cX6_letDaysPass 40 = .ok (.iadd, 1) := by decide +kernel
theorem dX6_letDaysPass_41 : decode cX6_letDaysPass 41 = .ok (.putfield 142, 3) := by decide +kernel
theorem dX6_letDaysPass_44 : decode cX6_letDaysPass 44 = .ok (.aload_n 0, 1) := by decide +kernel
theorem dX6_letDaysPass_45 : decode cX6_letDaysPass 45 = .ok (.invokevirtual 223, 3) := by decide +kernel
theorem dX6_letDaysPass_48 : decode cX6_letDaysPass 48 = .ok (.ireturn, 1) := by decide +kernel
set_option maxRecDepth 20000 in
theorem ggX6_shortByMore_X4_lay : GoodIn wsX6_shortByMore wsX4_lay := goodIn_r _ [8, 9, 10, 11, 12, 7, 13, 14, 15, 16, 17, 18, 19, 20, 21, 22, 23, 24, 25, 26, 27, 28, 29, 30, 31, 32, 33, 34, 35, 36, 37, 38, 39, 40, 41, 42, 43, 44, 45, 46, 47, 48, 49, 50, 51, 52, 53, 54, 55, 56, 57, 58, 59, 60, 61, 62, 63, 64, 65, 66, 67, 68, 69, 96, 97, 98, 99, 100, 101, 102, 103, 104, 105, 106, 107, 108, 109, 110, 111, 112, 113] (by decide +kernel) (by decide +kernel)
set_option maxRecDepth 20000 in
theorem gX6_shortByMore_X4_lay : GoodIn wsX6_shortByMore (wsV RX6 149 RX4 yX4_lay wsX4_lay) := goodIn_app (goodIn_of _ (by decide +kernel)) ggX6_shortByMore_X4_lay
set_option maxRecDepth 20000 in
theorem ggX6_shortByMore_X4_floorOf : GoodIn wsX6_shortByMore wsX4_floorOf := goodIn_r _ [73, 14, 59, 47, 60, 74, 75, 76, 7, 77, 16, 65, 46, 48, 78, 79, 96, 97, 98, 99, 100, 101] (by decide +kernel) (by decide +kernel)
set_option maxRecDepth 20000 in
theorem gX6_shortByMore_X4_floorOf : GoodIn wsX6_shortByMore (wsV RX6 195 RX4 yX4_floorOf wsX4_floorOf) := goodIn_app (goodIn_of _ (by decide +kernel)) ggX6_shortByMore_X4_floorOf
set_option maxRecDepth 20000 in
theorem ggX6_shortByMore_X4_lackBeyond : GoodIn wsX6_shortByMore wsX4_lackBeyond := goodIn_r _ [83, 84, 85, 86, 87, 49, 50, 51, 7, 52, 15, 16, 96, 97, 98, 99, 100, 101] (by decide +kernel) (by decide +kernel)
set_option maxRecDepth 20000 in
theorem gX6_shortByMore_X4_lackBeyond : GoodIn wsX6_shortByMore (wsV RX6 268 RX4 yX4_lackBeyond wsX4_lackBeyond) := goodIn_app (goodIn_of _ (by decide +kernel)) ggX6_shortByMore_X4_lackBeyond
theorem dX6_shortByMore_0 : decode cX6_shortByMore 0 = .ok (.iconst 0, 1) := by decide +kernel
theorem dX6_shortByMore_1 : decode cX6_shortByMore 1 = .ok (.istore 4, 2) := by decide +kernel
theorem dX6_shortByMore_3 : decode cX6_shortByMore 3 = .ok (.iload_n 2, 1) := by decide +kernel
theorem dX6_shortByMore_4 : decode cX6_shortByMore 4 = .ok (.istore 5, 2) := by decide +kernel
theorem dX6_shortByMore_6 : decode cX6_shortByMore 6 = .ok (.iload 5, 2) := by decide +kernel
theorem dX6_shortByMore_8 : decode cX6_shortByMore 8 = .ok (.iload_n 3, 1) := by decide +kernel
theorem dX6_shortByMore_9 : decode cX6_shortByMore 9 = .ok (.if_icmp .gt 76, 3) := by decide +kernel
theorem dX6_shortByMore_12 : decode cX6_shortByMore 12 = .ok (.iload 5, 2) := by decide +kernel
theorem dX6_shortByMore_14 : decode cX6_shortByMore 14 = .ok (.sipush 399, 3) := by decide +kernel
theorem dX6_shortByMore_17 : decode cX6_shortByMore 17 = .ok (.if_icmp .gt 68, 3) := by decide +kernel
theorem dX6_shortByMore_20 : decode cX6_shortByMore 20 = .ok (.aload_n 0, 1) := by decide +kernel
theorem dX6_shortByMore_21 : decode cX6_shortByMore 21 = .ok (.getfield 36, 3) := by decide +kernel
theorem dX6_shortByMore_24 : decode cX6_shortByMore 24 = .ok (.aload_n 0, 1) := by decide +kernel
theorem dX6_shortByMore_25 : decode cX6_shortByMore 25 = .ok (.getfield 10, 3) := by decide +kernel
theorem dX6_shortByMore_28 : decode cX6_shortByMore 28 = .ok (.iload 5, 2) := by decide +kernel
theorem dX6_shortByMore_30 : decode cX6_shortByMore 30 = .ok (.iconst 0, 1) := by decide +kernel
theorem dX6_shortByMore_31 : decode cX6_shortByMore 31 = .ok (.invokevirtual 149, 3) := by decide +kernel
theorem dX6_shortByMore_34 : decode cX6_shortByMore 34 = .ok (.aload_n 0, 1) := by decide +kernel
theorem dX6_shortByMore_35 : decode cX6_shortByMore 35 = .ok (.getfield 36, 3) := by decide +kernel
theorem dX6_shortByMore_38 : decode cX6_shortByMore 38 = .ok (.iload_n 1, 1) := by decide +kernel
theorem dX6_shortByMore_39 : decode cX6_shortByMore 39 = .ok (.invokevirtual 195, 3) := by decide +kernel
theorem dX6_shortByMore_42 : decode cX6_shortByMore 42 = .ok (.bipush (-5), 2) := by decide +kernel
theorem dX6_shortByMore_44 : decode cX6_shortByMore 44 = .ok (.if_icmp .eq 35, 3) := by decide +kernel
theorem dX6_shortByMore_47 : decode cX6_shortByMore 47 = .ok (.aload_n 0, 1) := by decide +kernel
theorem dX6_shortByMore_48 : decode cX6_shortByMore 48 = .ok (.getfield 40, 3) := by decide +kernel
theorem dX6_shortByMore_51 : decode cX6_shortByMore 51 = .ok (.aload_n 0, 1) := by decide +kernel
theorem dX6_shortByMore_52 : decode cX6_shortByMore 52 = .ok (.getfield 10, 3) := by decide +kernel
theorem dX6_shortByMore_55 : decode cX6_shortByMore 55 = .ok (.iload 5, 2) := by decide +kernel
theorem dX6_shortByMore_57 : decode cX6_shortByMore 57 = .ok (.iconst 1, 1) := by decide +kernel
theorem dX6_shortByMore_58 : decode cX6_shortByMore 58 = .ok (.iload_n 1, 1) := by decide +kernel
theorem dX6_shortByMore_59 : decode cX6_shortByMore 59 = .ok (.ishl, 1) := by decide +kernel
theorem dX6_shortByMore_60 : decode cX6_shortByMore 60 = .ok (.invokevirtual 149, 3) := by decide +kernel
theorem dX6_shortByMore_63 : decode cX6_shortByMore 63 = .ok (.iload 4, 2) := by decide +kernel
theorem dX6_shortByMore_65 : decode cX6_shortByMore 65 = .ok (.aload_n 0, 1) := by decide +kernel
theorem dX6_shortByMore_66 : decode cX6_shortByMore 66 = .ok (.getfield 40, 3) := by decide +kernel
theorem dX6_shortByMore_69 : decode cX6_shortByMore 69 = .ok (.aload_n 0, 1) := by decide +kernel
theorem dX6_shortByMore_70 : decode cX6_shortByMore 70 = .ok (.getfield 36, 3) := by decide +kernel
theorem dX6_shortByMore_73 : decode cX6_shortByMore 73 = .ok (.invokevirtual 268, 3) := by decide +kernel
theorem dX6_shortByMore_76 : decode cX6_shortByMore 76 = .ok (.iadd, 1) := by decide +kernel
theorem dX6_shortByMore_77 : decode cX6_shortByMore 77 = .ok (.istore 4, 2) := by decide +kernel
theorem dX6_shortByMore_79 : decode cX6_shortByMore 79 = .ok (.iinc 5 1, 3) := by decide +kernel
theorem dX6_shortByMore_82 : decode cX6_shortByMore 82 = .ok (.goto (-76), 3) := by decide +kernel
theorem dX6_shortByMore_85 : decode cX6_shortByMore 85 = .ok (.iload 4, 2) := by decide +kernel
theorem dX6_shortByMore_87 : decode cX6_shortByMore 87 = .ok (.ireturn, 1) := by decide +kernel
set_option maxRecDepth 20000 in
theorem ggX6_floorsShortToday_X4_lay : GoodIn wsX6_floorsShortToday wsX4_lay := goodIn_r _ [7, 8, 9, 10, 11, 6, 12, 13, 14, 15, 16, 17, 18, 19, 20, 21, 22, 23, 24, 25, 26, 27, 28, 29, 30, 31, 32, 33, 34, 35, 36, 37, 38, 39, 40, 41, 42, 43, 44, 45, 46, 47, 48, 49, 50, 51, 52, 53, 54, 55, 56, 57, 58, 59, 60, 61, 62, 63, 64, 65, 66, 67, 68, 86, 87, 88, 89, 90, 91, 78, 79, 80, 81, 82, 83, 84, 85, 92, 93, 94, 95] (by decide +kernel) (by decide +kernel)
set_option maxRecDepth 20000 in
theorem gX6_floorsShortToday_X4_lay : GoodIn wsX6_floorsShortToday (wsV RX6 149 RX4 yX4_lay wsX4_lay) := goodIn_app (goodIn_of _ (by decide +kernel)) ggX6_floorsShortToday_X4_lay
set_option maxRecDepth 20000 in
theorem ggX6_floorsShortToday_X4_lack : GoodIn wsX6_floorsShortToday wsX4_lack := goodIn_r _ [51, 14, 15, 86, 87, 88, 89, 90, 91] (by decide +kernel) (by decide +kernel)
set_option maxRecDepth 20000 in
theorem gX6_floorsShortToday_X4_lack : GoodIn wsX6_floorsShortToday (wsV RX6 159 RX4 yX4_lack wsX4_lack) := goodIn_app (goodIn_of _ (by decide +kernel)) ggX6_floorsShortToday_X4_lack
theorem dX6_floorsShortToday_0 : decode cX6_floorsShortToday 0 = .ok (.aload_n 0, 1) := by decide +kernel
theorem dX6_floorsShortToday_1 : decode cX6_floorsShortToday 1 = .ok (.getfield 36, 3) := by decide +kernel
theorem dX6_floorsShortToday_4 : decode cX6_floorsShortToday 4 = .ok (.aload_n 0, 1) := by decide +kernel
theorem dX6_floorsShortToday_5 : decode cX6_floorsShortToday 5 = .ok (.getfield 10, 3) := by decide +kernel
theorem dX6_floorsShortToday_8 : decode cX6_floorsShortToday 8 = .ok (.aload_n 0, 1) := by decide +kernel
theorem dX6_floorsShortToday_9 : decode cX6_floorsShortToday 9 = .ok (.getfield 10, 3) := by decide +kernel
theorem dX6_floorsShortToday_12 : decode cX6_floorsShortToday 12 = .ok (.getfield 142, 3) := by decide +kernel
theorem dX6_floorsShortToday_15 : decode cX6_floorsShortToday 15 = .ok (.iconst 0, 1) := by decide +kernel
theorem dX6_floorsShortToday_16 : decode cX6_floorsShortToday 16 = .ok (.invokevirtual 149, 3) := by decide +kernel
theorem dX6_floorsShortToday_19 : decode cX6_floorsShortToday 19 = .ok (.iconst 0, 1) := by decide +kernel
theorem dX6_floorsShortToday_20 : decode cX6_floorsShortToday 20 = .ok (.istore_n 1, 1) := by decide +kernel
theorem dX6_floorsShortToday_21 : decode cX6_floorsShortToday 21 = .ok (.iconst 0, 1) := by decide +kernel
theorem dX6_floorsShortToday_22 : decode cX6_floorsShortToday 22 = .ok (.istore_n 2, 1) := by decide +kernel
theorem dX6_floorsShortToday_23 : decode cX6_floorsShortToday 23 = .ok (.iload_n 2, 1) := by decide +kernel
theorem dX6_floorsShortToday_24 : decode cX6_floorsShortToday 24 = .ok (.bipush 10, 2) := by decide +kernel
theorem dX6_floorsShortToday_26 : decode cX6_floorsShortToday 26 = .ok (.if_icmp .ge 23, 3) := by decide +kernel
theorem dX6_floorsShortToday_29 : decode cX6_floorsShortToday 29 = .ok (.aload_n 0, 1) := by decide +kernel
theorem dX6_floorsShortToday_30 : decode cX6_floorsShortToday 30 = .ok (.getfield 36, 3) := by decide +kernel
theorem dX6_floorsShortToday_33 : decode cX6_floorsShortToday 33 = .ok (.iload_n 2, 1) := by decide +kernel
theorem dX6_floorsShortToday_34 : decode cX6_floorsShortToday 34 = .ok (.invokevirtual 159, 3) := by decide +kernel
theorem dX6_floorsShortToday_37 : decode cX6_floorsShortToday 37 = .ok (.ifCond .le 6, 3) := by decide +kernel
theorem dX6_floorsShortToday_40 : decode cX6_floorsShortToday 40 = .ok (.iinc 1 1, 3) := by decide +kernel
theorem dX6_floorsShortToday_43 : decode cX6_floorsShortToday 43 = .ok (.iinc 2 1, 3) := by decide +kernel
theorem dX6_floorsShortToday_46 : decode cX6_floorsShortToday 46 = .ok (.goto (-23), 3) := by decide +kernel
theorem dX6_floorsShortToday_49 : decode cX6_floorsShortToday 49 = .ok (.iload_n 1, 1) := by decide +kernel
theorem dX6_floorsShortToday_50 : decode cX6_floorsShortToday 50 = .ok (.ireturn, 1) := by decide +kernel
set_option maxRecDepth 20000 in
theorem ggX6_wardensLackingToday_X4_lay : GoodIn wsX6_wardensLackingToday wsX4_lay := goodIn_r _ [7, 8, 9, 10, 11, 6, 12, 13, 14, 15, 16, 17, 18, 19, 20, 21, 22, 23, 24, 25, 26, 27, 28, 29, 30, 31, 32, 33, 34, 35, 36, 37, 38, 39, 40, 41, 42, 43, 44, 45, 46, 47, 48, 49, 50, 51, 52, 53, 54, 55, 56, 57, 58, 59, 60, 61, 62, 63, 64, 65, 66, 67, 68, 86, 87, 88, 89, 90, 91, 78, 79, 80, 81, 82, 83, 84, 85, 92, 93, 94, 95] (by decide +kernel) (by decide +kernel)
set_option maxRecDepth 20000 in
theorem gX6_wardensLackingToday_X4_lay : GoodIn wsX6_wardensLackingToday (wsV RX6 149 RX4 yX4_lay wsX4_lay) := goodIn_app (goodIn_of _ (by decide +kernel)) ggX6_wardensLackingToday_X4_lay
set_option maxRecDepth 20000 in
theorem ggX6_wardensLackingToday_X4_lack : GoodIn wsX6_wardensLackingToday wsX4_lack := goodIn_r _ [51, 14, 15, 86, 87, 88, 89, 90, 91] (by decide +kernel) (by decide +kernel)
set_option maxRecDepth 20000 in
theorem gX6_wardensLackingToday_X4_lack : GoodIn wsX6_wardensLackingToday (wsV RX6 159 RX4 yX4_lack wsX4_lack) := goodIn_app (goodIn_of _ (by decide +kernel)) ggX6_wardensLackingToday_X4_lack
theorem dX6_wardensLackingToday_0 : decode cX6_wardensLackingToday 0 = .ok (.aload_n 0, 1) := by decide +kernel
theorem dX6_wardensLackingToday_1 : decode cX6_wardensLackingToday 1 = .ok (.getfield 36, 3) := by decide +kernel
theorem dX6_wardensLackingToday_4 : decode cX6_wardensLackingToday 4 = .ok (.aload_n 0, 1) := by decide +kernel
theorem dX6_wardensLackingToday_5 : decode cX6_wardensLackingToday 5 = .ok (.getfield 10, 3) := by decide +kernel
theorem dX6_wardensLackingToday_8 : decode cX6_wardensLackingToday 8 = .ok (.aload_n 0, 1) := by decide +kernel
theorem dX6_wardensLackingToday_9 : decode cX6_wardensLackingToday 9 = .ok (.getfield 10, 3) := by decide +kernel
theorem dX6_wardensLackingToday_12 : decode cX6_wardensLackingToday 12 = .ok (.getfield 142, 3) := by decide +kernel
theorem dX6_wardensLackingToday_15 : decode cX6_wardensLackingToday 15 = .ok (.iconst 0, 1) := by decide +kernel
theorem dX6_wardensLackingToday_16 : decode cX6_wardensLackingToday 16 = .ok (.invokevirtual 149, 3) := by decide +kernel
theorem dX6_wardensLackingToday_19 : decode cX6_wardensLackingToday 19 = .ok (.iconst 0, 1) := by decide +kernel
theorem dX6_wardensLackingToday_20 : decode cX6_wardensLackingToday 20 = .ok (.istore_n 1, 1) := by decide +kernel
theorem dX6_wardensLackingToday_21 : decode cX6_wardensLackingToday 21 = .ok (.iconst 0, 1) := by decide +kernel
theorem dX6_wardensLackingToday_22 : decode cX6_wardensLackingToday 22 = .ok (.istore_n 2, 1) := by decide +kernel
theorem dX6_wardensLackingToday_23 : decode cX6_wardensLackingToday 23 = .ok (.iload_n 2, 1) := by decide +kernel
theorem dX6_wardensLackingToday_24 : decode cX6_wardensLackingToday 24 = .ok (.bipush 10, 2) := by decide +kernel
theorem dX6_wardensLackingToday_26 : decode cX6_wardensLackingToday 26 = .ok (.if_icmp .ge 20, 3) := by decide +kernel
theorem dX6_wardensLackingToday_29 : decode cX6_wardensLackingToday 29 = .ok (.iload_n 1, 1) := by decide +kernel
theorem dX6_wardensLackingToday_30 : decode cX6_wardensLackingToday 30 = .ok (.aload_n 0, 1) := by decide +kernel
theorem dX6_wardensLackingToday_31 : decode cX6_wardensLackingToday 31 = .ok (.getfield 36, 3) := by decide +kernel
theorem dX6_wardensLackingToday_34 : decode cX6_wardensLackingToday 34 = .ok (.iload_n 2, 1) := by decide +kernel
theorem dX6_wardensLackingToday_35 : decode cX6_wardensLackingToday 35 = .ok (.invokevirtual 159, 3) := by decide +kernel
theorem dX6_wardensLackingToday_38 : decode cX6_wardensLackingToday 38 = .ok (.iadd, 1) := by decide +kernel
theorem dX6_wardensLackingToday_39 : decode cX6_wardensLackingToday 39 = .ok (.istore_n 1, 1) := by decide +kernel
theorem dX6_wardensLackingToday_40 : decode cX6_wardensLackingToday 40 = .ok (.iinc 2 1, 3) := by decide +kernel
theorem dX6_wardensLackingToday_43 : decode cX6_wardensLackingToday 43 = .ok (.goto (-20), 3) := by decide +kernel
theorem dX6_wardensLackingToday_46 : decode cX6_wardensLackingToday 46 = .ok (.iload_n 1, 1) := by decide +kernel
theorem dX6_wardensLackingToday_47 : decode cX6_wardensLackingToday 47 = .ok (.ireturn, 1) := by decide +kernel
theorem dX6_isWithin_0 : decode cX6_isWithin 0 = .ok (.iload_n 1, 1) := by decide +kernel
theorem dX6_isWithin_1 : decode cX6_isWithin 1 = .ok (.iload_n 0, 1) := by decide +kernel
theorem dX6_isWithin_2 : decode cX6_isWithin 2 = .ok (.if_icmp .gt 12, 3) := by decide +kernel
theorem dX6_isWithin_5 : decode cX6_isWithin 5 = .ok (.iload_n 0, 1) := by decide +kernel
theorem dX6_isWithin_6 : decode cX6_isWithin 6 = .ok (.iload_n 2, 1) := by decide +kernel
theorem dX6_isWithin_7 : decode cX6_isWithin 7 = .ok (.if_icmp .gt 7, 3) := by decide +kernel
theorem dX6_isWithin_10 : decode cX6_isWithin 10 = .ok (.iconst 1, 1) := by decide +kernel
theorem dX6_isWithin_11 : decode cX6_isWithin 11 = .ok (.goto 4, 3) := by decide +kernel
theorem dX6_isWithin_14 : decode cX6_isWithin 14 = .ok (.iconst 0, 1) := by decide +kernel
theorem dX6_isWithin_15 : decode cX6_isWithin 15 = .ok (.ireturn, 1) := by decide +kernel
theorem dX6_isFloor_0 : decode cX6_isFloor 0 = .ok (.iconst 0, 1) := by decide +kernel
theorem dX6_isFloor_1 : decode cX6_isFloor 1 = .ok (.iload_n 0, 1) := by decide +kernel
theorem dX6_isFloor_2 : decode cX6_isFloor 2 = .ok (.if_icmp .gt 13, 3) := by decide +kernel
theorem dX6_isFloor_5 : decode cX6_isFloor 5 = .ok (.iload_n 0, 1) := by decide +kernel
theorem dX6_isFloor_6 : decode cX6_isFloor 6 = .ok (.bipush 10, 2) := by decide +kernel
theorem dX6_isFloor_8 : decode cX6_isFloor 8 = .ok (.if_icmp .ge 7, 3) := by decide +kernel
theorem dX6_isFloor_11 : decode cX6_isFloor 11 = .ok (.iconst 1, 1) := by decide +kernel
theorem dX6_isFloor_12 : decode cX6_isFloor 12 = .ok (.goto 4, 3) := by decide +kernel
theorem dX6_isFloor_15 : decode cX6_isFloor 15 = .ok (.iconst 0, 1) := by decide +kernel
theorem dX6_isFloor_16 : decode cX6_isFloor 16 = .ok (.ireturn, 1) := by decide +kernel
theorem dX6_isPerson_0 : decode cX6_isPerson 0 = .ok (.iconst 0, 1) := by decide +kernel
theorem dX6_isPerson_1 : decode cX6_isPerson 1 = .ok (.iload_n 0, 1) := by decide +kernel
theorem dX6_isPerson_2 : decode cX6_isPerson 2 = .ok (.if_icmp .gt 13, 3) := by decide +kernel
theorem dX6_isPerson_5 : decode cX6_isPerson 5 = .ok (.iload_n 0, 1) := by decide +kernel
theorem dX6_isPerson_6 : decode cX6_isPerson 6 = .ok (.bipush 16, 2) := by decide +kernel
theorem dX6_isPerson_8 : decode cX6_isPerson 8 = .ok (.if_icmp .ge 7, 3) := by decide +kernel
theorem dX6_isPerson_11 : decode cX6_isPerson 11 = .ok (.iconst 1, 1) := by decide +kernel
theorem dX6_isPerson_12 : decode cX6_isPerson 12 = .ok (.goto 4, 3) := by decide +kernel
theorem dX6_isPerson_15 : decode cX6_isPerson 15 = .ok (.iconst 0, 1) := by decide +kernel
theorem dX6_isPerson_16 : decode cX6_isPerson 16 = .ok (.ireturn, 1) := by decide +kernel
theorem dX6_isDay_0 : decode cX6_isDay 0 = .ok (.iconst 0, 1) := by decide +kernel
theorem dX6_isDay_1 : decode cX6_isDay 1 = .ok (.iload_n 0, 1) := by decide +kernel
theorem dX6_isDay_2 : decode cX6_isDay 2 = .ok (.if_icmp .gt 14, 3) := by decide +kernel
theorem dX6_isDay_5 : decode cX6_isDay 5 = .ok (.iload_n 0, 1) := by decide +kernel
theorem dX6_isDay_6 : decode cX6_isDay 6 = .ok (.sipush 399, 3) := by decide +kernel
theorem dX6_isDay_9 : decode cX6_isDay 9 = .ok (.if_icmp .gt 7, 3) := by decide +kernel
theorem dX6_isDay_12 : decode cX6_isDay 12 = .ok (.iconst 1, 1) := by decide +kernel
theorem dX6_isDay_13 : decode cX6_isDay 13 = .ok (.goto 4, 3) := by decide +kernel
theorem dX6_isDay_16 : decode cX6_isDay 16 = .ok (.iconst 0, 1) := by decide +kernel
theorem dX6_isDay_17 : decode cX6_isDay 17 = .ok (.ireturn, 1) := by decide +kernel
theorem dX6_isIn_0 : decode cX6_isIn 0 = .ok (.iload_n 0, 1) := by decide +kernel
theorem dX6_isIn_1 : decode cX6_isIn 1 = .ok (.iload_n 1, 1) := by decide +kernel
theorem dX6_isIn_2 : decode cX6_isIn 2 = .ok (.ishr, 1) := by decide +kernel
theorem dX6_isIn_3 : decode cX6_isIn 3 = .ok (.iconst 1, 1) := by decide +kernel
theorem dX6_isIn_4 : decode cX6_isIn 4 = .ok (.iand, 1) := by decide +kernel
theorem dX6_isIn_5 : decode cX6_isIn 5 = .ok (.ifCond .eq 7, 3) := by decide +kernel
theorem dX6_isIn_8 : decode cX6_isIn 8 = .ok (.iconst 1, 1) := by decide +kernel
theorem dX6_isIn_9 : decode cX6_isIn 9 = .ok (.goto 4, 3) := by decide +kernel
theorem dX6_isIn_12 : decode cX6_isIn 12 = .ok (.iconst 0, 1) := by decide +kernel
theorem dX6_isIn_13 : decode cX6_isIn 13 = .ok (.ireturn, 1) := by decide +kernel
theorem dX6_copy_0 : decode cX6_copy 0 = .ok (.aload_n 0, 1) := by decide +kernel
theorem dX6_copy_1 : decode cX6_copy 1 = .ok (.arraylength, 1) := by decide +kernel
theorem dX6_copy_2 : decode cX6_copy 2 = .ok (.aload_n 1, 1) := by decide +kernel
theorem dX6_copy_3 : decode cX6_copy 3 = .ok (.arraylength, 1) := by decide +kernel
theorem dX6_copy_4 : decode cX6_copy 4 = .ok (.if_icmp .ne 12, 3) := by decide +kernel
theorem dX6_copy_7 : decode cX6_copy 7 = .ok (.aload_n 0, 1) := by decide +kernel
theorem dX6_copy_8 : decode cX6_copy 8 = .ok (.iconst 0, 1) := by decide +kernel
theorem dX6_copy_9 : decode cX6_copy 9 = .ok (.aload_n 1, 1) := by decide +kernel
theorem dX6_copy_10 : decode cX6_copy 10 = .ok (.iconst 0, 1) := by decide +kernel
theorem dX6_copy_11 : decode cX6_copy 11 = .ok (.aload_n 0, 1) := by decide +kernel
theorem dX6_copy_12 : decode cX6_copy 12 = .ok (.arraylength, 1) := by decide +kernel
theorem dX6_copy_13 : decode cX6_copy 13 = .ok (.invokestatic 272, 3) := by decide +kernel
theorem dX6_copy_16 : decode cX6_copy 16 = .ok (.return_, 1) := by decide +kernel
theorem dJ6_bitCount_0f7a4_0 : decode cJ6_bitCount_0f7a4 0 = .ok (.iload_n 0, 1) := by decide +kernel
theorem dJ6_bitCount_0f7a4_1 : decode cJ6_bitCount_0f7a4 1 = .ok (.iload_n 0, 1) := by decide +kernel
theorem dJ6_bitCount_0f7a4_2 : decode cJ6_bitCount_0f7a4 2 = .ok (.iconst 1, 1) := by decide +kernel
theorem dJ6_bitCount_0f7a4_3 : decode cJ6_bitCount_0f7a4 3 = .ok (.iushr, 1) := by decide +kernel
theorem dJ6_bitCount_0f7a4_4 : decode cJ6_bitCount_0f7a4 4 = .ok (.ldc_w 265, 3) := by decide +kernel
theorem dJ6_bitCount_0f7a4_7 : decode cJ6_bitCount_0f7a4 7 = .ok (.iand, 1) := by decide +kernel
theorem dJ6_bitCount_0f7a4_8 : decode cJ6_bitCount_0f7a4 8 = .ok (.isub, 1) := by decide +kernel
theorem dJ6_bitCount_0f7a4_9 : decode cJ6_bitCount_0f7a4 9 = .ok (.istore_n 0, 1) := by decide +kernel
theorem dJ6_bitCount_0f7a4_10 : decode cJ6_bitCount_0f7a4 10 = .ok (.iload_n 0, 1) := by decide +kernel
theorem dJ6_bitCount_0f7a4_11 : decode cJ6_bitCount_0f7a4 11 = .ok (.ldc_w 266, 3) := by decide +kernel
theorem dJ6_bitCount_0f7a4_14 : decode cJ6_bitCount_0f7a4 14 = .ok (.iand, 1) := by decide +kernel
theorem dJ6_bitCount_0f7a4_15 : decode cJ6_bitCount_0f7a4 15 = .ok (.iload_n 0, 1) := by decide +kernel
theorem dJ6_bitCount_0f7a4_16 : decode cJ6_bitCount_0f7a4 16 = .ok (.iconst 2, 1) := by decide +kernel
theorem dJ6_bitCount_0f7a4_17 : decode cJ6_bitCount_0f7a4 17 = .ok (.iushr, 1) := by decide +kernel
theorem dJ6_bitCount_0f7a4_18 : decode cJ6_bitCount_0f7a4 18 = .ok (.ldc_w 266, 3) := by decide +kernel
theorem dJ6_bitCount_0f7a4_21 : decode cJ6_bitCount_0f7a4 21 = .ok (.iand, 1) := by decide +kernel
theorem dJ6_bitCount_0f7a4_22 : decode cJ6_bitCount_0f7a4 22 = .ok (.iadd, 1) := by decide +kernel
theorem dJ6_bitCount_0f7a4_23 : decode cJ6_bitCount_0f7a4 23 = .ok (.istore_n 0, 1) := by decide +kernel
theorem dJ6_bitCount_0f7a4_24 : decode cJ6_bitCount_0f7a4 24 = .ok (.iload_n 0, 1) := by decide +kernel
theorem dJ6_bitCount_0f7a4_25 : decode cJ6_bitCount_0f7a4 25 = .ok (.iload_n 0, 1) := by decide +kernel
theorem dJ6_bitCount_0f7a4_26 : decode cJ6_bitCount_0f7a4 26 = .ok (.iconst 4, 1) := by decide +kernel
theorem dJ6_bitCount_0f7a4_27 : decode cJ6_bitCount_0f7a4 27 = .ok (.iushr, 1) := by decide +kernel
theorem dJ6_bitCount_0f7a4_28 : decode cJ6_bitCount_0f7a4 28 = .ok (.iadd, 1) := by decide +kernel
theorem dJ6_bitCount_0f7a4_29 : decode cJ6_bitCount_0f7a4 29 = .ok (.ldc_w 267, 3) := by decide +kernel
theorem dJ6_bitCount_0f7a4_32 : decode cJ6_bitCount_0f7a4 32 = .ok (.iand, 1) := by decide +kernel
theorem dJ6_bitCount_0f7a4_33 : decode cJ6_bitCount_0f7a4 33 = .ok (.istore_n 0, 1) := by decide +kernel
theorem dJ6_bitCount_0f7a4_34 : decode cJ6_bitCount_0f7a4 34 = .ok (.iload_n 0, 1) := by decide +kernel
theorem dJ6_bitCount_0f7a4_35 : decode cJ6_bitCount_0f7a4 35 = .ok (.iload_n 0, 1) := by decide +kernel
theorem dJ6_bitCount_0f7a4_36 : decode cJ6_bitCount_0f7a4 36 = .ok (.bipush 8, 2) := by decide +kernel
