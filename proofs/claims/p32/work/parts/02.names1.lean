theorem dX2_removeAt_20 : decode cX2_removeAt 20 = .ok (.invokestatic 29, 3) := by decide +kernel
theorem dX2_removeAt_23 : decode cX2_removeAt 23 = .ok (.ifCond .ne 6, 3) := by decide +kernel
theorem dX2_removeAt_26 : decode cX2_removeAt 26 = .ok (.bipush (-5), 2) := by decide +kernel
theorem dX2_removeAt_28 : decode cX2_removeAt 28 = .ok (.ireturn, 1) := by decide +kernel
theorem dX2_removeAt_29 : decode cX2_removeAt 29 = .ok (.aload_n 0, 1) := by decide +kernel
theorem dX2_removeAt_30 : decode cX2_removeAt 30 = .ok (.getfield 18, 3) := by decide +kernel
theorem dX2_removeAt_33 : decode cX2_removeAt 33 = .ok (.iload_n 1, 1) := by decide +kernel
theorem dX2_removeAt_34 : decode cX2_removeAt 34 = .ok (.iaload, 1) := by decide +kernel
theorem dX2_removeAt_35 : decode cX2_removeAt 35 = .ok (.aload_n 0, 1) := by decide +kernel
theorem dX2_removeAt_36 : decode cX2_removeAt 36 = .ok (.getfield 15, 3) := by decide +kernel
theorem dX2_removeAt_39 : decode cX2_removeAt 39 = .ok (.iload_n 1, 1) := by decide +kernel
theorem dX2_removeAt_40 : decode cX2_removeAt 40 = .ok (.iaload, 1) := by decide +kernel
theorem dX2_removeAt_41 : decode cX2_removeAt 41 = .ok (.isub, 1) := by decide +kernel
theorem dX2_removeAt_42 : decode cX2_removeAt 42 = .ok (.iconst 1, 1) := by decide +kernel
theorem dX2_removeAt_43 : decode cX2_removeAt 43 = .ok (.iadd, 1) := by decide +kernel
theorem dX2_removeAt_44 : decode cX2_removeAt 44 = .ok (.istore_n 3, 1) := by decide +kernel
theorem dX2_removeAt_45 : decode cX2_removeAt 45 = .ok (.aload_n 0, 1) := by decide +kernel
theorem dX2_removeAt_46 : decode cX2_removeAt 46 = .ok (.getfield 9, 3) := by decide +kernel
theorem dX2_removeAt_49 : decode cX2_removeAt 49 = .ok (.iload_n 1, 1) := by decide +kernel
theorem dX2_removeAt_50 : decode cX2_removeAt 50 = .ok (.aload_n 0, 1) := by decide +kernel
theorem dX2_removeAt_51 : decode cX2_removeAt 51 = .ok (.getfield 9, 3) := by decide +kernel
theorem dX2_removeAt_54 : decode cX2_removeAt 54 = .ok (.iload_n 2, 1) := by decide +kernel
theorem dX2_removeAt_55 : decode cX2_removeAt 55 = .ok (.iaload, 1) := by decide +kernel
theorem dX2_removeAt_56 : decode cX2_removeAt 56 = .ok (.iastore, 1) := by decide +kernel
theorem dX2_removeAt_57 : decode cX2_removeAt 57 = .ok (.aload_n 0, 1) := by decide +kernel
theorem dX2_removeAt_58 : decode cX2_removeAt 58 = .ok (.getfield 15, 3) := by decide +kernel
theorem dX2_removeAt_61 : decode cX2_removeAt 61 = .ok (.iload_n 1, 1) := by decide +kernel
theorem dX2_removeAt_62 : decode cX2_removeAt 62 = .ok (.aload_n 0, 1) := by decide +kernel
theorem dX2_removeAt_63 : decode cX2_removeAt 63 = .ok (.getfield 15, 3) := by decide +kernel
theorem dX2_removeAt_66 : decode cX2_removeAt 66 = .ok (.iload_n 2, 1) := by decide +kernel
theorem dX2_removeAt_67 : decode cX2_removeAt 67 = .ok (.iaload, 1) := by decide +kernel
theorem dX2_removeAt_68 : decode cX2_removeAt 68 = .ok (.iastore, 1) := by decide +kernel
theorem dX2_removeAt_69 : decode cX2_removeAt 69 = .ok (.aload_n 0, 1) := by decide +kernel
theorem dX2_removeAt_70 : decode cX2_removeAt 70 = .ok (.getfield 18, 3) := by decide +kernel
theorem dX2_removeAt_73 : decode cX2_removeAt 73 = .ok (.iload_n 1, 1) := by decide +kernel
theorem dX2_removeAt_74 : decode cX2_removeAt 74 = .ok (.aload_n 0, 1) := by decide +kernel
theorem dX2_removeAt_75 : decode cX2_removeAt 75 = .ok (.getfield 18, 3) := by decide +kernel
theorem dX2_removeAt_78 : decode cX2_removeAt 78 = .ok (.iload_n 2, 1) := by decide +kernel
theorem dX2_removeAt_79 : decode cX2_removeAt 79 = .ok (.iaload, 1) := by decide +kernel
theorem dX2_removeAt_80 : decode cX2_removeAt 80 = .ok (.iastore, 1) := by decide +kernel
theorem dX2_removeAt_81 : decode cX2_removeAt 81 = .ok (.aload_n 0, 1) := by decide +kernel
theorem dX2_removeAt_82 : decode cX2_removeAt 82 = .ok (.iload_n 2, 1) := by decide +kernel
theorem dX2_removeAt_83 : decode cX2_removeAt 83 = .ok (.putfield 21, 3) := by decide +kernel
theorem dX2_removeAt_86 : decode cX2_removeAt 86 = .ok (.iload_n 3, 1) := by decide +kernel
theorem dX2_removeAt_87 : decode cX2_removeAt 87 = .ok (.ireturn, 1) := by decide +kernel
theorem dX2_awayOn_0 : decode cX2_awayOn 0 = .ok (.iconst 0, 1) := by decide +kernel
theorem dX2_awayOn_1 : decode cX2_awayOn 1 = .ok (.istore_n 2, 1) := by decide +kernel
theorem dX2_awayOn_2 : decode cX2_awayOn 2 = .ok (.iconst 0, 1) := by decide +kernel
theorem dX2_awayOn_3 : decode cX2_awayOn 3 = .ok (.istore_n 3, 1) := by decide +kernel
theorem dX2_awayOn_4 : decode cX2_awayOn 4 = .ok (.iload_n 3, 1) := by decide +kernel
theorem dX2_awayOn_5 : decode cX2_awayOn 5 = .ok (.aload_n 0, 1) := by decide +kernel
theorem dX2_awayOn_6 : decode cX2_awayOn 6 = .ok (.getfield 21, 3) := by decide +kernel
theorem dX2_awayOn_9 : decode cX2_awayOn 9 = .ok (.if_icmp .ge 46, 3) := by decide +kernel
theorem dX2_awayOn_12 : decode cX2_awayOn 12 = .ok (.iload_n 3, 1) := by decide +kernel
theorem dX2_awayOn_13 : decode cX2_awayOn 13 = .ok (.bipush 40, 2) := by decide +kernel
theorem dX2_awayOn_15 : decode cX2_awayOn 15 = .ok (.if_icmp .ge 40, 3) := by decide +kernel
theorem dX2_awayOn_18 : decode cX2_awayOn 18 = .ok (.aload_n 0, 1) := by decide +kernel
theorem dX2_awayOn_19 : decode cX2_awayOn 19 = .ok (.getfield 15, 3) := by decide +kernel
theorem dX2_awayOn_22 : decode cX2_awayOn 22 = .ok (.iload_n 3, 1) := by decide +kernel
theorem dX2_awayOn_23 : decode cX2_awayOn 23 = .ok (.iaload, 1) := by decide +kernel
theorem dX2_awayOn_24 : decode cX2_awayOn 24 = .ok (.iload_n 1, 1) := by decide +kernel
theorem dX2_awayOn_25 : decode cX2_awayOn 25 = .ok (.if_icmp .gt 24, 3) := by decide +kernel
theorem dX2_awayOn_28 : decode cX2_awayOn 28 = .ok (.iload_n 1, 1) := by decide +kernel
theorem dX2_awayOn_29 : decode cX2_awayOn 29 = .ok (.aload_n 0, 1) := by decide +kernel
theorem dX2_awayOn_30 : decode cX2_awayOn 30 = .ok (.getfield 18, 3) := by decide +kernel
theorem dX2_awayOn_33 : decode cX2_awayOn 33 = .ok (.iload_n 3, 1) := by decide +kernel
theorem dX2_awayOn_34 : decode cX2_awayOn 34 = .ok (.iaload, 1) := by decide +kernel
theorem dX2_awayOn_35 : decode cX2_awayOn 35 = .ok (.if_icmp .gt 14, 3) := by decide +kernel
theorem dX2_awayOn_38 : decode cX2_awayOn 38 = .ok (.iload_n 2, 1) := by decide +kernel
theorem dX2_awayOn_39 : decode cX2_awayOn 39 = .ok (.iconst 1, 1) := by decide +kernel
theorem dX2_awayOn_40 : decode cX2_awayOn 40 = .ok (.aload_n 0, 1) := by decide +kernel
theorem dX2_awayOn_41 : decode cX2_awayOn 41 = .ok (.getfield 9, 3) := by decide +kernel
theorem dX2_awayOn_44 : decode cX2_awayOn 44 = .ok (.iload_n 3, 1) := by decide +kernel
theorem dX2_awayOn_45 : decode cX2_awayOn 45 = .ok (.iaload, 1) := by decide +kernel
theorem dX2_awayOn_46 : decode cX2_awayOn 46 = .ok (.ishl, 1) := by decide +kernel
theorem dX2_awayOn_47 : decode cX2_awayOn 47 = .ok (.ior, 1) := by decide +kernel
theorem dX2_awayOn_48 : decode cX2_awayOn 48 = .ok (.istore_n 2, 1) := by decide +kernel
theorem dX2_awayOn_49 : decode cX2_awayOn 49 = .ok (.iinc 3 1, 3) := by decide +kernel
theorem dX2_awayOn_52 : decode cX2_awayOn 52 = .ok (.goto (-48), 3) := by decide +kernel
theorem dX2_awayOn_55 : decode cX2_awayOn 55 = .ok (.iload_n 2, 1) := by decide +kernel
theorem dX2_awayOn_56 : decode cX2_awayOn 56 = .ok (.ireturn, 1) := by decide +kernel
theorem dX2_leavesOf_0 : decode cX2_leavesOf 0 = .ok (.iconst 0, 1) := by decide +kernel
theorem dX2_leavesOf_1 : decode cX2_leavesOf 1 = .ok (.istore_n 2, 1) := by decide +kernel
theorem dX2_leavesOf_2 : decode cX2_leavesOf 2 = .ok (.iconst 0, 1) := by decide +kernel
theorem dX2_leavesOf_3 : decode cX2_leavesOf 3 = .ok (.istore_n 3, 1) := by decide +kernel
theorem dX2_leavesOf_4 : decode cX2_leavesOf 4 = .ok (.iload_n 3, 1) := by decide +kernel
theorem dX2_leavesOf_5 : decode cX2_leavesOf 5 = .ok (.aload_n 0, 1) := by decide +kernel
theorem dX2_leavesOf_6 : decode cX2_leavesOf 6 = .ok (.getfield 21, 3) := by decide +kernel
theorem dX2_leavesOf_9 : decode cX2_leavesOf 9 = .ok (.if_icmp .ge 28, 3) := by decide +kernel
theorem dX2_leavesOf_12 : decode cX2_leavesOf 12 = .ok (.iload_n 3, 1) := by decide +kernel
theorem dX2_leavesOf_13 : decode cX2_leavesOf 13 = .ok (.bipush 40, 2) := by decide +kernel
theorem dX2_leavesOf_15 : decode cX2_leavesOf 15 = .ok (.if_icmp .ge 22, 3) := by decide +kernel
theorem dX2_leavesOf_18 : decode cX2_leavesOf 18 = .ok (.aload_n 0, 1) := by decide +kernel
theorem dX2_leavesOf_19 : decode cX2_leavesOf 19 = .ok (.getfield 9, 3) := by decide +kernel
theorem dX2_leavesOf_22 : decode cX2_leavesOf 22 = .ok (.iload_n 3, 1) := by decide +kernel
theorem dX2_leavesOf_23 : decode cX2_leavesOf 23 = .ok (.iaload, 1) := by decide +kernel
theorem dX2_leavesOf_24 : decode cX2_leavesOf 24 = .ok (.iload_n 1, 1) := by decide +kernel
theorem dX2_leavesOf_25 : decode cX2_leavesOf 25 = .ok (.if_icmp .ne 6, 3) := by decide +kernel
theorem dX2_leavesOf_28 : decode cX2_leavesOf 28 = .ok (.iinc 2 1, 3) := by decide +kernel
theorem dX2_leavesOf_31 : decode cX2_leavesOf 31 = .ok (.iinc 3 1, 3) := by decide +kernel
theorem dX2_leavesOf_34 : decode cX2_leavesOf 34 = .ok (.goto (-30), 3) := by decide +kernel
theorem dX2_leavesOf_37 : decode cX2_leavesOf 37 = .ok (.iload_n 2, 1) := by decide +kernel
theorem dX2_leavesOf_38 : decode cX2_leavesOf 38 = .ok (.ireturn, 1) := by decide +kernel
theorem dX2_daysOf_0 : decode cX2_daysOf 0 = .ok (.iconst 0, 1) := by decide +kernel
theorem dX2_daysOf_1 : decode cX2_daysOf 1 = .ok (.istore_n 2, 1) := by decide +kernel
theorem dX2_daysOf_2 : decode cX2_daysOf 2 = .ok (.iconst 0, 1) := by decide +kernel
theorem dX2_daysOf_3 : decode cX2_daysOf 3 = .ok (.istore_n 3, 1) := by decide +kernel
theorem dX2_daysOf_4 : decode cX2_daysOf 4 = .ok (.iload_n 3, 1) := by decide +kernel
theorem dX2_daysOf_5 : decode cX2_daysOf 5 = .ok (.aload_n 0, 1) := by decide +kernel
theorem dX2_daysOf_6 : decode cX2_daysOf 6 = .ok (.getfield 21, 3) := by decide +kernel
theorem dX2_daysOf_9 : decode cX2_daysOf 9 = .ok (.if_icmp .ge 43, 3) := by decide +kernel
theorem dX2_daysOf_12 : decode cX2_daysOf 12 = .ok (.iload_n 3, 1) := by decide +kernel
theorem dX2_daysOf_13 : decode cX2_daysOf 13 = .ok (.bipush 40, 2) := by decide +kernel
theorem dX2_daysOf_15 : decode cX2_daysOf 15 = .ok (.if_icmp .ge 37, 3) := by decide +kernel
theorem dX2_daysOf_18 : decode cX2_daysOf 18 = .ok (.aload_n 0, 1) := by decide +kernel
theorem dX2_daysOf_19 : decode cX2_daysOf 19 = .ok (.getfield 9, 3) := by decide +kernel
theorem dX2_daysOf_22 : decode cX2_daysOf 22 = .ok (.iload_n 3, 1) := by decide +kernel
theorem dX2_daysOf_23 : decode cX2_daysOf 23 = .ok (.iaload, 1) := by decide +kernel
theorem dX2_daysOf_24 : decode cX2_daysOf 24 = .ok (.iload_n 1, 1) := by decide +kernel
theorem dX2_daysOf_25 : decode cX2_daysOf 25 = .ok (.if_icmp .ne 21, 3) := by decide +kernel
theorem dX2_daysOf_28 : decode cX2_daysOf 28 = .ok (.iload_n 2, 1) := by decide +kernel
theorem dX2_daysOf_29 : decode cX2_daysOf 29 = .ok (.aload_n 0, 1) := by decide +kernel
theorem dX2_daysOf_30 : decode cX2_daysOf 30 = .ok (.getfield 18, 3) := by decide +kernel
theorem dX2_daysOf_33 : decode cX2_daysOf 33 = .ok (.iload_n 3, 1) := by decide +kernel
theorem dX2_daysOf_34 : decode cX2_daysOf 34 = .ok (.iaload, 1) := by decide +kernel
theorem dX2_daysOf_35 : decode cX2_daysOf 35 = .ok (.aload_n 0, 1) := by decide +kernel
theorem dX2_daysOf_36 : decode cX2_daysOf 36 = .ok (.getfield 15, 3) := by decide +kernel
theorem dX2_daysOf_39 : decode cX2_daysOf 39 = .ok (.iload_n 3, 1) := by decide +kernel
theorem dX2_daysOf_40 : decode cX2_daysOf 40 = .ok (.iaload, 1) := by decide +kernel
theorem dX2_daysOf_41 : decode cX2_daysOf 41 = .ok (.isub, 1) := by decide +kernel
theorem dX2_daysOf_42 : decode cX2_daysOf 42 = .ok (.iconst 1, 1) := by decide +kernel
theorem dX2_daysOf_43 : decode cX2_daysOf 43 = .ok (.iadd, 1) := by decide +kernel
theorem dX2_daysOf_44 : decode cX2_daysOf 44 = .ok (.iadd, 1) := by decide +kernel
theorem dX2_daysOf_45 : decode cX2_daysOf 45 = .ok (.istore_n 2, 1) := by decide +kernel
theorem dX2_daysOf_46 : decode cX2_daysOf 46 = .ok (.iinc 3 1, 3) := by decide +kernel
theorem dX2_daysOf_49 : decode cX2_daysOf 49 = .ok (.goto (-45), 3) := by decide +kernel
theorem dX2_daysOf_52 : decode cX2_daysOf 52 = .ok (.iload_n 2, 1) := by decide +kernel
theorem dX2_daysOf_53 : decode cX2_daysOf 53 = .ok (.ireturn, 1) := by decide +kernel
theorem dX3_init_0 : decode cX3_init 0 = .ok (.aload_n 0, 1) := by decide +kernel
theorem dX3_init_1 : decode cX3_init 1 = .ok (.invokespecial 3, 3) := by decide +kernel
theorem dX3_init_4 : decode cX3_init 4 = .ok (.aload_n 0, 1) := by decide +kernel
theorem dX3_init_5 : decode cX3_init 5 = .ok (.bipush 80, 2) := by decide +kernel
theorem dX3_init_7 : decode cX3_init 7 = .ok (.newarray .char, 2) := by decide +kernel
theorem dX3_init_9 : decode cX3_init 9 = .ok (.putfield 9, 3) := by decide +kernel
theorem dX3_init_12 : decode cX3_init 12 = .ok (.aload_n 0, 1) := by decide +kernel
theorem dX3_init_13 : decode cX3_init 13 = .ok (.bipush 12, 2) := by decide +kernel
theorem dX3_init_15 : decode cX3_init 15 = .ok (.newarray .int, 2) := by decide +kernel
theorem dX3_init_17 : decode cX3_init 17 = .ok (.putfield 15, 3) := by decide +kernel
theorem dX3_init_20 : decode cX3_init 20 = .ok (.aload_n 0, 1) := by decide +kernel
theorem dX3_init_21 : decode cX3_init 21 = .ok (.bipush 36, 2) := by decide +kernel
theorem dX3_init_23 : decode cX3_init 23 = .ok (.newarray .int, 2) := by decide +kernel
theorem dX3_init_25 : decode cX3_init 25 = .ok (.putfield 19, 3) := by decide +kernel
theorem dX3_init_28 : decode cX3_init 28 = .ok (.return_, 1) := by decide +kernel
theorem dX4_init_0 : decode cX4_init 0 = .ok (.aload_n 0, 1) := by decide +kernel
theorem dX4_init_1 : decode cX4_init 1 = .ok (.invokespecial 3, 3) := by decide +kernel
theorem dX4_init_4 : decode cX4_init 4 = .ok (.aload_n 0, 1) := by decide +kernel
theorem dX4_init_5 : decode cX4_init 5 = .ok (.bipush 10, 2) := by decide +kernel
theorem dX4_init_7 : decode cX4_init 7 = .ok (.newarray .int, 2) := by decide +kernel
theorem dX4_init_9 : decode cX4_init 9 = .ok (.putfield 9, 3) := by decide +kernel
theorem dX4_init_12 : decode cX4_init 12 = .ok (.aload_n 0, 1) := by decide +kernel
theorem dX4_init_13 : decode cX4_init 13 = .ok (.bipush 10, 2) := by decide +kernel
theorem dX4_init_15 : decode cX4_init 15 = .ok (.newarray .int, 2) := by decide +kernel
theorem dX4_init_17 : decode cX4_init 17 = .ok (.putfield 15, 3) := by decide +kernel
theorem dX4_init_20 : decode cX4_init 20 = .ok (.aload_n 0, 1) := by decide +kernel
theorem dX4_init_21 : decode cX4_init 21 = .ok (.bipush 10, 2) := by decide +kernel
theorem dX4_init_23 : decode cX4_init 23 = .ok (.newarray .int, 2) := by decide +kernel
theorem dX4_init_25 : decode cX4_init 25 = .ok (.putfield 18, 3) := by decide +kernel
theorem dX4_init_28 : decode cX4_init 28 = .ok (.aload_n 0, 1) := by decide +kernel
theorem dX4_init_29 : decode cX4_init 29 = .ok (.bipush 10, 2) := by decide +kernel
theorem dX4_init_31 : decode cX4_init 31 = .ok (.newarray .int, 2) := by decide +kernel
theorem dX4_init_33 : decode cX4_init 33 = .ok (.putfield 21, 3) := by decide +kernel
theorem dX4_init_36 : decode cX4_init 36 = .ok (.aload_n 0, 1) := by decide +kernel
theorem dX4_init_37 : decode cX4_init 37 = .ok (.bipush 30, 2) := by decide +kernel
theorem dX4_init_39 : decode cX4_init 39 = .ok (.newarray .int, 2) := by decide +kernel
theorem dX4_init_41 : decode cX4_init 41 = .ok (.putfield 24, 3) := by decide +kernel
theorem dX4_init_44 : decode cX4_init 44 = .ok (.return_, 1) := by decide +kernel
set_option maxRecDepth 20000 in
theorem ggX4_lay_X4_clearFor : GoodIn wsX4_lay wsX4_clearFor := goodIn_r _ [6, 7, 8, 9, 10, 63, 64, 65, 66, 67, 68, 69, 70, 71, 72, 73, 74, 75, 76] (by decide +kernel) (by decide +kernel)
set_option maxRecDepth 20000 in
theorem gX4_lay_X4_clearFor : GoodIn wsX4_lay (wsV RX4 27 RX4 yX4_clearFor wsX4_clearFor) := goodIn_app (goodIn_of _ (by decide +kernel)) ggX4_lay_X4_clearFor
set_option maxRecDepth 20000 in
theorem ggX4_lay_X4_arrangeFloors : GoodIn wsX4_lay wsX4_arrangeFloors := goodIn_r _ [14, 1, 15, 16, 17, 5, 18, 69, 70, 71, 72, 73, 74, 75, 76, 63, 64, 65, 66, 67, 68] (by decide +kernel) (by decide +kernel)
set_option maxRecDepth 20000 in
theorem gX4_lay_X4_arrangeFloors : GoodIn wsX4_lay (wsV RX4 31 RX4 yX4_arrangeFloors wsX4_arrangeFloors) := goodIn_app (goodIn_of _ (by decide +kernel)) ggX4_lay_X4_arrangeFloors
set_option maxRecDepth 20000 in
theorem ggX4_lay_X5_ableOn : GoodIn wsX4_lay wsX5_ableOn := goodIn_r _ [23, 24, 25, 26, 27, 28, 29, 30, 31, 32, 33, 34, 69, 70, 71, 72, 73, 74, 75, 76, 77, 78, 79, 80] (by decide +kernel) (by decide +kernel)
set_option maxRecDepth 20000 in
theorem gX4_lay_X5_ableOn : GoodIn wsX4_lay (wsV RX4 34 RX5 yX5_ableOn wsX5_ableOn) := goodIn_app (goodIn_of _ (by decide +kernel)) ggX4_lay_X5_ableOn
set_option maxRecDepth 20000 in
theorem ggX4_lay_X4_takeFromRow : GoodIn wsX4_lay wsX4_takeFromRow := goodIn_r _ [38, 7, 39, 40, 41, 42, 43, 44, 5, 45, 8, 9, 46, 47, 48, 22, 49, 50, 51, 52, 53, 54, 55, 56, 57, 58, 63, 64, 65, 66, 67, 68, 69, 70, 71, 72, 73, 74, 75, 76] (by decide +kernel) (by decide +kernel)
set_option maxRecDepth 20000 in
theorem gX4_lay_X4_takeFromRow : GoodIn wsX4_lay (wsV RX4 40 RX4 yX4_takeFromRow wsX4_takeFromRow) := goodIn_app (goodIn_of _ (by decide +kernel)) ggX4_lay_X4_takeFromRow
set_option maxRecDepth 20000 in
theorem ggX4_lay_X4_takeHelpers : GoodIn wsX4_lay wsX4_takeHelpers := goodIn_r _ [62, 7, 10, 39, 40, 41, 42, 43, 44, 5, 45, 8, 9, 52, 53, 54, 55, 56, 57, 58, 63, 64, 65, 66, 67, 68] (by decide +kernel) (by decide +kernel)
set_option maxRecDepth 20000 in
theorem gX4_lay_X4_takeHelpers : GoodIn wsX4_lay (wsV RX4 47 RX4 yX4_takeHelpers wsX4_takeHelpers) := goodIn_app (goodIn_of _ (by decide +kernel)) ggX4_lay_X4_takeHelpers
theorem dX4_lay_0 : decode cX4_lay 0 = .ok (.aload_n 0, 1) := by decide +kernel
theorem dX4_lay_1 : decode cX4_lay 1 = .ok (.aload_n 1, 1) := by decide +kernel
theorem dX4_lay_2 : decode cX4_lay 2 = .ok (.invokevirtual 27, 3) := by decide +kernel
theorem dX4_lay_5 : decode cX4_lay 5 = .ok (.aload_n 0, 1) := by decide +kernel
theorem dX4_lay_6 : decode cX4_lay 6 = .ok (.aload_n 1, 1) := by decide +kernel
theorem dX4_lay_7 : decode cX4_lay 7 = .ok (.invokevirtual 31, 3) := by decide +kernel
theorem dX4_lay_10 : decode cX4_lay 10 = .ok (.aload_n 1, 1) := by decide +kernel
theorem dX4_lay_11 : decode cX4_lay 11 = .ok (.iload_n 2, 1) := by decide +kernel
theorem dX4_lay_12 : decode cX4_lay 12 = .ok (.invokevirtual 34, 3) := by decide +kernel
theorem dX4_lay_15 : decode cX4_lay 15 = .ok (.iload_n 3, 1) := by decide +kernel
theorem dX4_lay_16 : decode cX4_lay 16 = .ok (.iconst (-1), 1) := by decide +kernel
theorem dX4_lay_17 : decode cX4_lay 17 = .ok (.ixor, 1) := by decide +kernel
theorem dX4_lay_18 : decode cX4_lay 18 = .ok (.iand, 1) := by decide +kernel
theorem dX4_lay_19 : decode cX4_lay 19 = .ok (.istore 4, 2) := by decide +kernel
theorem dX4_lay_21 : decode cX4_lay 21 = .ok (.iconst 0, 1) := by decide +kernel
theorem dX4_lay_22 : decode cX4_lay 22 = .ok (.istore 5, 2) := by decide +kernel
theorem dX4_lay_24 : decode cX4_lay 24 = .ok (.iload 5, 2) := by decide +kernel
theorem dX4_lay_26 : decode cX4_lay 26 = .ok (.bipush 10, 2) := by decide +kernel
theorem dX4_lay_28 : decode cX4_lay 28 = .ok (.if_icmp .ge 23, 3) := by decide +kernel
theorem dX4_lay_31 : decode cX4_lay 31 = .ok (.aload_n 0, 1) := by decide +kernel
theorem dX4_lay_32 : decode cX4_lay 32 = .ok (.aload_n 1, 1) := by decide +kernel
theorem dX4_lay_33 : decode cX4_lay 33 = .ok (.aload_n 0, 1) := by decide +kernel
theorem dX4_lay_34 : decode cX4_lay 34 = .ok (.getfield 9, 3) := by decide +kernel
theorem dX4_lay_37 : decode cX4_lay 37 = .ok (.iload 5, 2) := by decide +kernel
theorem dX4_lay_39 : decode cX4_lay 39 = .ok (.iaload, 1) := by decide +kernel
theorem dX4_lay_40 : decode cX4_lay 40 = .ok (.iload 4, 2) := by decide +kernel
theorem dX4_lay_42 : decode cX4_lay 42 = .ok (.invokevirtual 40, 3) := by decide +kernel
theorem dX4_lay_45 : decode cX4_lay 45 = .ok (.iinc 5 1, 3) := by decide +kernel
theorem dX4_lay_48 : decode cX4_lay 48 = .ok (.goto (-24), 3) := by decide +kernel
theorem dX4_lay_51 : decode cX4_lay 51 = .ok (.aload_n 1, 1) := by decide +kernel
theorem dX4_lay_52 : decode cX4_lay 52 = .ok (.getfield 44, 3) := by decide +kernel
theorem dX4_lay_55 : decode cX4_lay 55 = .ok (.iconst 1, 1) := by decide +kernel
theorem dX4_lay_56 : decode cX4_lay 56 = .ok (.iaload, 1) := by decide +kernel
theorem dX4_lay_57 : decode cX4_lay 57 = .ok (.iconst 1, 1) := by decide +kernel
theorem dX4_lay_58 : decode cX4_lay 58 = .ok (.if_icmp .ne 32, 3) := by decide +kernel
theorem dX4_lay_61 : decode cX4_lay 61 = .ok (.iconst 0, 1) := by decide +kernel
theorem dX4_lay_62 : decode cX4_lay 62 = .ok (.istore 5, 2) := by decide +kernel
theorem dX4_lay_64 : decode cX4_lay 64 = .ok (.iload 5, 2) := by decide +kernel
theorem dX4_lay_66 : decode cX4_lay 66 = .ok (.bipush 10, 2) := by decide +kernel
theorem dX4_lay_68 : decode cX4_lay 68 = .ok (.if_icmp .ge 22, 3) := by decide +kernel
theorem dX4_lay_71 : decode cX4_lay 71 = .ok (.aload_n 0, 1) := by decide +kernel
theorem dX4_lay_72 : decode cX4_lay 72 = .ok (.aload_n 0, 1) := by decide +kernel
theorem dX4_lay_73 : decode cX4_lay 73 = .ok (.getfield 9, 3) := by decide +kernel
theorem dX4_lay_76 : decode cX4_lay 76 = .ok (.iload 5, 2) := by decide +kernel
theorem dX4_lay_78 : decode cX4_lay 78 = .ok (.iaload, 1) := by decide +kernel
theorem dX4_lay_79 : decode cX4_lay 79 = .ok (.iload 4, 2) := by decide +kernel
theorem dX4_lay_81 : decode cX4_lay 81 = .ok (.invokevirtual 47, 3) := by decide +kernel
theorem dX4_lay_84 : decode cX4_lay 84 = .ok (.iinc 5 1, 3) := by decide +kernel
theorem dX4_lay_87 : decode cX4_lay 87 = .ok (.goto (-23), 3) := by decide +kernel
theorem dX4_lay_90 : decode cX4_lay 90 = .ok (.return_, 1) := by decide +kernel
theorem dX4_clearFor_0 : decode cX4_clearFor 0 = .ok (.aload_n 0, 1) := by decide +kernel
theorem dX4_clearFor_1 : decode cX4_clearFor 1 = .ok (.iconst 0, 1) := by decide +kernel
theorem dX4_clearFor_2 : decode cX4_clearFor 2 = .ok (.putfield 51, 3) := by decide +kernel
theorem dX4_clearFor_5 : decode cX4_clearFor 5 = .ok (.iconst 0, 1) := by decide +kernel
theorem dX4_clearFor_6 : decode cX4_clearFor 6 = .ok (.istore_n 2, 1) := by decide +kernel
theorem dX4_clearFor_7 : decode cX4_clearFor 7 = .ok (.iload_n 2, 1) := by decide +kernel
theorem dX4_clearFor_8 : decode cX4_clearFor 8 = .ok (.bipush 10, 2) := by decide +kernel
theorem dX4_clearFor_10 : decode cX4_clearFor 10 = .ok (.if_icmp .ge 35, 3) := by decide +kernel
theorem dX4_clearFor_13 : decode cX4_clearFor 13 = .ok (.aload_n 0, 1) := by decide +kernel
theorem dX4_clearFor_14 : decode cX4_clearFor 14 = .ok (.getfield 15, 3) := by decide +kernel
theorem dX4_clearFor_17 : decode cX4_clearFor 17 = .ok (.iload_n 2, 1) := by decide +kernel
theorem dX4_clearFor_18 : decode cX4_clearFor 18 = .ok (.aload_n 1, 1) := by decide +kernel
theorem dX4_clearFor_19 : decode cX4_clearFor 19 = .ok (.getfield 55, 3) := by decide +kernel
theorem dX4_clearFor_22 : decode cX4_clearFor 22 = .ok (.iload_n 2, 1) := by decide +kernel
theorem dX4_clearFor_23 : decode cX4_clearFor 23 = .ok (.iaload, 1) := by decide +kernel
theorem dX4_clearFor_24 : decode cX4_clearFor 24 = .ok (.iastore, 1) := by decide +kernel
theorem dX4_clearFor_25 : decode cX4_clearFor 25 = .ok (.aload_n 0, 1) := by decide +kernel
theorem dX4_clearFor_26 : decode cX4_clearFor 26 = .ok (.getfield 18, 3) := by decide +kernel
theorem dX4_clearFor_29 : decode cX4_clearFor 29 = .ok (.iload_n 2, 1) := by decide +kernel
theorem dX4_clearFor_30 : decode cX4_clearFor 30 = .ok (.iconst 0, 1) := by decide +kernel
theorem dX4_clearFor_31 : decode cX4_clearFor 31 = .ok (.iastore, 1) := by decide +kernel
theorem dX4_clearFor_32 : decode cX4_clearFor 32 = .ok (.aload_n 0, 1) := by decide +kernel
theorem dX4_clearFor_33 : decode cX4_clearFor 33 = .ok (.getfield 21, 3) := by decide +kernel
theorem dX4_clearFor_36 : decode cX4_clearFor 36 = .ok (.iload_n 2, 1) := by decide +kernel
theorem dX4_clearFor_37 : decode cX4_clearFor 37 = .ok (.iconst 0, 1) := by decide +kernel
theorem dX4_clearFor_38 : decode cX4_clearFor 38 = .ok (.iastore, 1) := by decide +kernel
theorem dX4_clearFor_39 : decode cX4_clearFor 39 = .ok (.iinc 2 1, 3) := by decide +kernel
theorem dX4_clearFor_42 : decode cX4_clearFor 42 = .ok (.goto (-35), 3) := by decide +kernel
theorem dX4_clearFor_45 : decode cX4_clearFor 45 = .ok (.return_, 1) := by decide +kernel
set_option maxRecDepth 20000 in
theorem ggX4_arrangeFloors_X4_arrangeByRows : GoodIn wsX4_arrangeFloors wsX4_arrangeByRows := goodIn_r _ [6, 1, 7, 8, 9, 10, 11, 12, 13, 14, 15, 16, 17, 18, 19, 20] (by decide +kernel) (by decide +kernel)
set_option maxRecDepth 20000 in
theorem gX4_arrangeFloors_X4_arrangeByRows : GoodIn wsX4_arrangeFloors (wsV RX4 58 RX4 yX4_arrangeByRows wsX4_arrangeByRows) := goodIn_app (goodIn_of _ (by decide +kernel)) ggX4_arrangeFloors_X4_arrangeByRows
theorem dX4_arrangeFloors_0 : decode cX4_arrangeFloors 0 = .ok (.aload_n 1, 1) := by decide +kernel
theorem dX4_arrangeFloors_1 : decode cX4_arrangeFloors 1 = .ok (.getfield 44, 3) := by decide +kernel
theorem dX4_arrangeFloors_4 : decode cX4_arrangeFloors 4 = .ok (.iconst 0, 1) := by decide +kernel
theorem dX4_arrangeFloors_5 : decode cX4_arrangeFloors 5 = .ok (.iaload, 1) := by decide +kernel
theorem dX4_arrangeFloors_6 : decode cX4_arrangeFloors 6 = .ok (.istore_n 2, 1) := by decide +kernel
theorem dX4_arrangeFloors_7 : decode cX4_arrangeFloors 7 = .ok (.iload_n 2, 1) := by decide +kernel
theorem dX4_arrangeFloors_8 : decode cX4_arrangeFloors 8 = .ok (.iconst 2, 1) := by decide +kernel
theorem dX4_arrangeFloors_9 : decode cX4_arrangeFloors 9 = .ok (.if_icmp .ne 9, 3) := by decide +kernel
theorem dX4_arrangeFloors_12 : decode cX4_arrangeFloors 12 = .ok (.aload_n 0, 1) := by decide +kernel
theorem dX4_arrangeFloors_13 : decode cX4_arrangeFloors 13 = .ok (.aload_n 1, 1) := by decide +kernel
theorem dX4_arrangeFloors_14 : decode cX4_arrangeFloors 14 = .ok (.invokevirtual 58, 3) := by decide +kernel
theorem dX4_arrangeFloors_17 : decode cX4_arrangeFloors 17 = .ok (.return_, 1) := by decide +kernel
theorem dX4_arrangeFloors_18 : decode cX4_arrangeFloors 18 = .ok (.iconst 0, 1) := by decide +kernel
theorem dX4_arrangeFloors_19 : decode cX4_arrangeFloors 19 = .ok (.istore_n 3, 1) := by decide +kernel
theorem dX4_arrangeFloors_20 : decode cX4_arrangeFloors 20 = .ok (.iload_n 3, 1) := by decide +kernel
theorem dX4_arrangeFloors_21 : decode cX4_arrangeFloors 21 = .ok (.bipush 10, 2) := by decide +kernel
theorem dX4_arrangeFloors_23 : decode cX4_arrangeFloors 23 = .ok (.if_icmp .ge 28, 3) := by decide +kernel
theorem dX4_arrangeFloors_26 : decode cX4_arrangeFloors 26 = .ok (.aload_n 0, 1) := by decide +kernel
theorem dX4_arrangeFloors_27 : decode cX4_arrangeFloors 27 = .ok (.getfield 9, 3) := by decide +kernel
theorem dX4_arrangeFloors_30 : decode cX4_arrangeFloors 30 = .ok (.iload_n 3, 1) := by decide +kernel
theorem dX4_arrangeFloors_31 : decode cX4_arrangeFloors 31 = .ok (.iload_n 2, 1) := by decide +kernel
theorem dX4_arrangeFloors_32 : decode cX4_arrangeFloors 32 = .ok (.iconst 1, 1) := by decide +kernel
theorem dX4_arrangeFloors_33 : decode cX4_arrangeFloors 33 = .ok (.if_icmp .ne 10, 3) := by decide +kernel
theorem dX4_arrangeFloors_36 : decode cX4_arrangeFloors 36 = .ok (.bipush 9, 2) := by decide +kernel
theorem dX4_arrangeFloors_38 : decode cX4_arrangeFloors 38 = .ok (.iload_n 3, 1) := by decide +kernel
theorem dX4_arrangeFloors_39 : decode cX4_arrangeFloors 39 = .ok (.isub, 1) := by decide +kernel
theorem dX4_arrangeFloors_40 : decode cX4_arrangeFloors 40 = .ok (.goto 4, 3) := by decide +kernel
theorem dX4_arrangeFloors_43 : decode cX4_arrangeFloors 43 = .ok (.iload_n 3, 1) := by decide +kernel
theorem dX4_arrangeFloors_44 : decode cX4_arrangeFloors 44 = .ok (.iastore, 1) := by decide +kernel
theorem dX4_arrangeFloors_45 : decode cX4_arrangeFloors 45 = .ok (.iinc 3 1, 3) := by decide +kernel
theorem dX4_arrangeFloors_48 : decode cX4_arrangeFloors 48 = .ok (.goto (-28), 3) := by decide +kernel
theorem dX4_arrangeFloors_51 : decode cX4_arrangeFloors 51 = .ok (.return_, 1) := by decide +kernel
theorem dX4_arrangeByRows_0 : decode cX4_arrangeByRows 0 = .ok (.iconst 0, 1) := by decide +kernel
theorem dX4_arrangeByRows_1 : decode cX4_arrangeByRows 1 = .ok (.istore_n 2, 1) := by decide +kernel
theorem dX4_arrangeByRows_2 : decode cX4_arrangeByRows 2 = .ok (.iconst 0, 1) := by decide +kernel
theorem dX4_arrangeByRows_3 : decode cX4_arrangeByRows 3 = .ok (.istore_n 3, 1) := by decide +kernel
theorem dX4_arrangeByRows_4 : decode cX4_arrangeByRows 4 = .ok (.iload_n 3, 1) := by decide +kernel
theorem dX4_arrangeByRows_5 : decode cX4_arrangeByRows 5 = .ok (.iconst 5, 1) := by decide +kernel
theorem dX4_arrangeByRows_6 : decode cX4_arrangeByRows 6 = .ok (.if_icmp .gt 53, 3) := by decide +kernel
theorem dX4_arrangeByRows_9 : decode cX4_arrangeByRows 9 = .ok (.iconst 0, 1) := by decide +kernel
theorem dX4_arrangeByRows_10 : decode cX4_arrangeByRows 10 = .ok (.istore 4, 2) := by decide +kernel
theorem dX4_arrangeByRows_12 : decode cX4_arrangeByRows 12 = .ok (.iload 4, 2) := by decide +kernel
theorem dX4_arrangeByRows_14 : decode cX4_arrangeByRows 14 = .ok (.bipush 10, 2) := by decide +kernel
theorem dX4_arrangeByRows_16 : decode cX4_arrangeByRows 16 = .ok (.if_icmp .ge 37, 3) := by decide +kernel
theorem dX4_arrangeByRows_19 : decode cX4_arrangeByRows 19 = .ok (.aload_n 1, 1) := by decide +kernel
theorem dX4_arrangeByRows_20 : decode cX4_arrangeByRows 20 = .ok (.getfield 61, 3) := by decide +kernel
theorem dX4_arrangeByRows_23 : decode cX4_arrangeByRows 23 = .ok (.iload 4, 2) := by decide +kernel
theorem dX4_arrangeByRows_25 : decode cX4_arrangeByRows 25 = .ok (.iaload, 1) := by decide +kernel
theorem dX4_arrangeByRows_26 : decode cX4_arrangeByRows 26 = .ok (.iload_n 3, 1) := by decide +kernel
theorem dX4_arrangeByRows_27 : decode cX4_arrangeByRows 27 = .ok (.if_icmp .ne 20, 3) := by decide +kernel
theorem dX4_arrangeByRows_30 : decode cX4_arrangeByRows 30 = .ok (.iload_n 2, 1) := by decide +kernel
theorem dX4_arrangeByRows_31 : decode cX4_arrangeByRows 31 = .ok (.bipush 10, 2) := by decide +kernel
theorem dX4_arrangeByRows_33 : decode cX4_arrangeByRows 33 = .ok (.if_icmp .ge 14, 3) := by decide +kernel
theorem dX4_arrangeByRows_36 : decode cX4_arrangeByRows 36 = .ok (.aload_n 0, 1) := by decide +kernel
theorem dX4_arrangeByRows_37 : decode cX4_arrangeByRows 37 = .ok (.getfield 9, 3) := by decide +kernel
theorem dX4_arrangeByRows_40 : decode cX4_arrangeByRows 40 = .ok (.iload_n 2, 1) := by decide +kernel
theorem dX4_arrangeByRows_41 : decode cX4_arrangeByRows 41 = .ok (.iload 4, 2) := by decide +kernel
theorem dX4_arrangeByRows_43 : decode cX4_arrangeByRows 43 = .ok (.iastore, 1) := by decide +kernel
theorem dX4_arrangeByRows_44 : decode cX4_arrangeByRows 44 = .ok (.iinc 2 1, 3) := by decide +kernel
theorem dX4_arrangeByRows_47 : decode cX4_arrangeByRows 47 = .ok (.iinc 4 1, 3) := by decide +kernel
theorem dX4_arrangeByRows_50 : decode cX4_arrangeByRows 50 = .ok (.goto (-38), 3) := by decide +kernel
theorem dX4_arrangeByRows_53 : decode cX4_arrangeByRows 53 = .ok (.iinc 3 1, 3) := by decide +kernel
theorem dX4_arrangeByRows_56 : decode cX4_arrangeByRows 56 = .ok (.goto (-52), 3) := by decide +kernel
theorem dX4_arrangeByRows_59 : decode cX4_arrangeByRows 59 = .ok (.return_, 1) := by decide +kernel
set_option maxRecDepth 20000 in
theorem ggX4_takeFromRow_X6_isFloor : GoodIn wsX4_takeFromRow wsX6_isFloor := goodIn_r _ [4] (by decide +kernel) (by decide +kernel)
set_option maxRecDepth 20000 in
theorem gX4_takeFromRow_X6_isFloor_n64 : GoodIn wsX4_takeFromRow (wsX6_isFloor) := ggX4_takeFromRow_X6_isFloor
set_option maxRecDepth 20000 in
theorem ggX4_takeFromRow_X4_lack : GoodIn wsX4_takeFromRow wsX4_lack := goodIn_r _ [9, 10, 11, 26, 27, 28, 29, 30, 31] (by decide +kernel) (by decide +kernel)
set_option maxRecDepth 20000 in
theorem gX4_takeFromRow_X4_lack : GoodIn wsX4_takeFromRow (wsV RX4 68 RX4 yX4_lack wsX4_lack) := goodIn_app (goodIn_of _ (by decide +kernel)) ggX4_takeFromRow_X4_lack
set_option maxRecDepth 20000 in
theorem ggX4_takeFromRow_X5_personAt : GoodIn wsX4_takeFromRow wsX5_personAt := goodIn_r _ [16, 17, 18, 32, 33, 34, 35, 36, 37, 38, 39] (by decide +kernel) (by decide +kernel)
set_option maxRecDepth 20000 in
theorem gX4_takeFromRow_X5_personAt : GoodIn wsX4_takeFromRow (wsV RX4 71 RX5 yX5_personAt wsX5_personAt) := goodIn_app (goodIn_of _ (by decide +kernel)) ggX4_takeFromRow_X5_personAt
set_option maxRecDepth 20000 in
theorem ggX4_takeFromRow_X6_isIn : GoodIn wsX4_takeFromRow wsX6_isIn := goodIn_r _ [20] (by decide +kernel) (by decide +kernel)
set_option maxRecDepth 20000 in
theorem gX4_takeFromRow_X6_isIn_n75 : GoodIn wsX4_takeFromRow (wsX6_isIn) := ggX4_takeFromRow_X6_isIn
set_option maxRecDepth 20000 in
theorem ggX4_takeFromRow_X4_take : GoodIn wsX4_takeFromRow wsX4_take := goodIn_r _ [24, 11, 25, 1, 26, 27, 28, 29, 30, 31] (by decide +kernel) (by decide +kernel)
set_option maxRecDepth 20000 in
theorem gX4_takeFromRow_X4_take : GoodIn wsX4_takeFromRow (wsV RX4 79 RX4 yX4_take wsX4_take) := goodIn_app (goodIn_of _ (by decide +kernel)) ggX4_takeFromRow_X4_take
theorem dX4_takeFromRow_0 : decode cX4_takeFromRow 0 = .ok (.iload_n 2, 1) := by decide +kernel
theorem dX4_takeFromRow_1 : decode cX4_takeFromRow 1 = .ok (.invokestatic 64, 3) := by decide +kernel
theorem dX4_takeFromRow_4 : decode cX4_takeFromRow 4 = .ok (.ifCond .ne 4, 3) := by decide +kernel
theorem dX4_takeFromRow_7 : decode cX4_takeFromRow 7 = .ok (.return_, 1) := by decide +kernel
theorem dX4_takeFromRow_8 : decode cX4_takeFromRow 8 = .ok (.iconst 0, 1) := by decide +kernel
theorem dX4_takeFromRow_9 : decode cX4_takeFromRow 9 = .ok (.istore 4, 2) := by decide +kernel
theorem dX4_takeFromRow_11 : decode cX4_takeFromRow 11 = .ok (.iload 4, 2) := by decide +kernel
theorem dX4_takeFromRow_13 : decode cX4_takeFromRow 13 = .ok (.iconst 5, 1) := by decide +kernel
theorem dX4_takeFromRow_14 : decode cX4_takeFromRow 14 = .ok (.if_icmp .ge 56, 3) := by decide +kernel
theorem dX4_takeFromRow_17 : decode cX4_takeFromRow 17 = .ok (.aload_n 0, 1) := by decide +kernel
theorem dX4_takeFromRow_18 : decode cX4_takeFromRow 18 = .ok (.iload_n 2, 1) := by decide +kernel
theorem dX4_takeFromRow_19 : decode cX4_takeFromRow 19 = .ok (.invokevirtual 68, 3) := by decide +kernel
theorem dX4_takeFromRow_22 : decode cX4_takeFromRow 22 = .ok (.ifCond .le 48, 3) := by decide +kernel
theorem dX4_takeFromRow_25 : decode cX4_takeFromRow 25 = .ok (.aload_n 1, 1) := by decide +kernel
theorem dX4_takeFromRow_26 : decode cX4_takeFromRow 26 = .ok (.iload_n 2, 1) := by decide +kernel
theorem dX4_takeFromRow_27 : decode cX4_takeFromRow 27 = .ok (.iload 4, 2) := by decide +kernel
theorem dX4_takeFromRow_29 : decode cX4_takeFromRow 29 = .ok (.invokevirtual 71, 3) := by decide +kernel
theorem dX4_takeFromRow_32 : decode cX4_takeFromRow 32 = .ok (.istore 5, 2) := by decide +kernel
theorem dX4_takeFromRow_34 : decode cX4_takeFromRow 34 = .ok (.iload 5, 2) := by decide +kernel
theorem dX4_takeFromRow_36 : decode cX4_takeFromRow 36 = .ok (.bipush (-5), 2) := by decide +kernel
theorem dX4_takeFromRow_38 : decode cX4_takeFromRow 38 = .ok (.if_icmp .eq 26, 3) := by decide +kernel
theorem dX4_takeFromRow_41 : decode cX4_takeFromRow 41 = .ok (.iload_n 3, 1) := by decide +kernel
theorem dX4_takeFromRow_42 : decode cX4_takeFromRow 42 = .ok (.aload_n 0, 1) := by decide +kernel
theorem dX4_takeFromRow_43 : decode cX4_takeFromRow 43 = .ok (.getfield 51, 3) := by decide +kernel
theorem dX4_takeFromRow_46 : decode cX4_takeFromRow 46 = .ok (.iconst (-1), 1) := by decide +kernel
theorem dX4_takeFromRow_47 : decode cX4_takeFromRow 47 = .ok (.ixor, 1) := by decide +kernel
theorem dX4_takeFromRow_48 : decode cX4_takeFromRow 48 = .ok (.iand, 1) := by decide +kernel
theorem dX4_takeFromRow_49 : decode cX4_takeFromRow 49 = .ok (.iload 5, 2) := by decide +kernel
theorem dX4_takeFromRow_51 : decode cX4_takeFromRow 51 = .ok (.invokestatic 75, 3) := by decide +kernel
theorem dX4_takeFromRow_54 : decode cX4_takeFromRow 54 = .ok (.ifCond .eq 10, 3) := by decide +kernel
theorem dX4_takeFromRow_57 : decode cX4_takeFromRow 57 = .ok (.aload_n 0, 1) := by decide +kernel
theorem dX4_takeFromRow_58 : decode cX4_takeFromRow 58 = .ok (.iload_n 2, 1) := by decide +kernel
theorem dX4_takeFromRow_59 : decode cX4_takeFromRow 59 = .ok (.iload 5, 2) := by decide +kernel
theorem dX4_takeFromRow_61 : decode cX4_takeFromRow 61 = .ok (.invokevirtual 79, 3) := by decide +kernel
theorem dX4_takeFromRow_64 : decode cX4_takeFromRow 64 = .ok (.iinc 4 1, 3) := by decide +kernel
theorem dX4_takeFromRow_67 : decode cX4_takeFromRow 67 = .ok (.goto (-56), 3) := by decide +kernel
theorem dX4_takeFromRow_70 : decode cX4_takeFromRow 70 = .ok (.return_, 1) := by decide +kernel
set_option maxRecDepth 20000 in
theorem ggX4_takeHelpers_X6_isFloor : GoodIn wsX4_takeHelpers wsX6_isFloor := goodIn_r _ [5] (by decide +kernel) (by decide +kernel)
set_option maxRecDepth 20000 in
theorem gX4_takeHelpers_X6_isFloor_n64 : GoodIn wsX4_takeHelpers (wsX6_isFloor) := ggX4_takeHelpers_X6_isFloor
set_option maxRecDepth 20000 in
theorem ggX4_takeHelpers_X4_lack : GoodIn wsX4_takeHelpers wsX4_lack := goodIn_r _ [10, 11, 12, 20, 21, 22, 23, 24, 25] (by decide +kernel) (by decide +kernel)
set_option maxRecDepth 20000 in
theorem gX4_takeHelpers_X4_lack : GoodIn wsX4_takeHelpers (wsV RX4 68 RX4 yX4_lack wsX4_lack) := goodIn_app (goodIn_of _ (by decide +kernel)) ggX4_takeHelpers_X4_lack
set_option maxRecDepth 20000 in
theorem ggX4_takeHelpers_X6_isIn : GoodIn wsX4_takeHelpers wsX6_isIn := goodIn_r _ [14] (by decide +kernel) (by decide +kernel)
set_option maxRecDepth 20000 in
theorem gX4_takeHelpers_X6_isIn_n75 : GoodIn wsX4_takeHelpers (wsX6_isIn) := ggX4_takeHelpers_X6_isIn
set_option maxRecDepth 20000 in
theorem ggX4_takeHelpers_X4_take : GoodIn wsX4_takeHelpers wsX4_take := goodIn_r _ [18, 12, 19, 1, 20, 21, 22, 23, 24, 25] (by decide +kernel) (by decide +kernel)
set_option maxRecDepth 20000 in
theorem gX4_takeHelpers_X4_take : GoodIn wsX4_takeHelpers (wsV RX4 79 RX4 yX4_take wsX4_take) := goodIn_app (goodIn_of _ (by decide +kernel)) ggX4_takeHelpers_X4_take
theorem dX4_takeHelpers_0 : decode cX4_takeHelpers 0 = .ok (.iload_n 1, 1) := by decide +kernel
theorem dX4_takeHelpers_1 : decode cX4_takeHelpers 1 = .ok (.invokestatic 64, 3) := by decide +kernel
theorem dX4_takeHelpers_4 : decode cX4_takeHelpers 4 = .ok (.ifCond .ne 4, 3) := by decide +kernel
theorem dX4_takeHelpers_7 : decode cX4_takeHelpers 7 = .ok (.return_, 1) := by decide +kernel
theorem dX4_takeHelpers_8 : decode cX4_takeHelpers 8 = .ok (.iconst 0, 1) := by decide +kernel
theorem dX4_takeHelpers_9 : decode cX4_takeHelpers 9 = .ok (.istore_n 3, 1) := by decide +kernel
theorem dX4_takeHelpers_10 : decode cX4_takeHelpers 10 = .ok (.iload_n 3, 1) := by decide +kernel
theorem dX4_takeHelpers_11 : decode cX4_takeHelpers 11 = .ok (.bipush 16, 2) := by decide +kernel
theorem dX4_takeHelpers_13 : decode cX4_takeHelpers 13 = .ok (.if_icmp .ge 48, 3) := by decide +kernel
theorem dX4_takeHelpers_16 : decode cX4_takeHelpers 16 = .ok (.aload_n 0, 1) := by decide +kernel
theorem dX4_takeHelpers_17 : decode cX4_takeHelpers 17 = .ok (.iload_n 1, 1) := by decide +kernel
theorem dX4_takeHelpers_18 : decode cX4_takeHelpers 18 = .ok (.invokevirtual 68, 3) := by decide +kernel
theorem dX4_takeHelpers_21 : decode cX4_takeHelpers 21 = .ok (.ifCond .le 40, 3) := by decide +kernel
theorem dX4_takeHelpers_24 : decode cX4_takeHelpers 24 = .ok (.iload_n 2, 1) := by decide +kernel
theorem dX4_takeHelpers_25 : decode cX4_takeHelpers 25 = .ok (.aload_n 0, 1) := by decide +kernel
theorem dX4_takeHelpers_26 : decode cX4_takeHelpers 26 = .ok (.getfield 51, 3) := by decide +kernel
theorem dX4_takeHelpers_29 : decode cX4_takeHelpers 29 = .ok (.iconst (-1), 1) := by decide +kernel
theorem dX4_takeHelpers_30 : decode cX4_takeHelpers 30 = .ok (.ixor, 1) := by decide +kernel
theorem dX4_takeHelpers_31 : decode cX4_takeHelpers 31 = .ok (.iand, 1) := by decide +kernel
theorem dX4_takeHelpers_32 : decode cX4_takeHelpers 32 = .ok (.iload_n 3, 1) := by decide +kernel
theorem dX4_takeHelpers_33 : decode cX4_takeHelpers 33 = .ok (.invokestatic 75, 3) := by decide +kernel
theorem dX4_takeHelpers_36 : decode cX4_takeHelpers 36 = .ok (.ifCond .eq 19, 3) := by decide +kernel
theorem dX4_takeHelpers_39 : decode cX4_takeHelpers 39 = .ok (.aload_n 0, 1) := by decide +kernel
theorem dX4_takeHelpers_40 : decode cX4_takeHelpers 40 = .ok (.iload_n 1, 1) := by decide +kernel
theorem dX4_takeHelpers_41 : decode cX4_takeHelpers 41 = .ok (.iload_n 3, 1) := by decide +kernel
theorem dX4_takeHelpers_42 : decode cX4_takeHelpers 42 = .ok (.invokevirtual 79, 3) := by decide +kernel
theorem dX4_takeHelpers_45 : decode cX4_takeHelpers 45 = .ok (.aload_n 0, 1) := by decide +kernel
theorem dX4_takeHelpers_46 : decode cX4_takeHelpers 46 = .ok (.getfield 21, 3) := by decide +kernel
theorem dX4_takeHelpers_49 : decode cX4_takeHelpers 49 = .ok (.iload_n 1, 1) := by decide +kernel
theorem dX4_takeHelpers_50 : decode cX4_takeHelpers 50 = .ok (.dup2, 1) := by decide +kernel
theorem dX4_takeHelpers_51 : decode cX4_takeHelpers 51 = .ok (.iaload, 1) := by decide +kernel
theorem dX4_takeHelpers_52 : decode cX4_takeHelpers 52 = .ok (.iconst 1, 1) := by decide +kernel
theorem dX4_takeHelpers_53 : decode cX4_takeHelpers 53 = .ok (.iadd, 1) := by decide +kernel
theorem dX4_takeHelpers_54 : decode cX4_takeHelpers 54 = .ok (.iastore, 1) := by decide +kernel
theorem dX4_takeHelpers_55 : decode cX4_takeHelpers 55 = .ok (.iinc 3 1, 3) := by decide +kernel
theorem dX4_takeHelpers_58 : decode cX4_takeHelpers 58 = .ok (.goto (-48), 3) := by decide +kernel
theorem dX4_takeHelpers_61 : decode cX4_takeHelpers 61 = .ok (.return_, 1) := by decide +kernel
theorem dX4_take_0 : decode cX4_take 0 = .ok (.aload_n 0, 1) := by decide +kernel
theorem dX4_take_1 : decode cX4_take 1 = .ok (.getfield 18, 3) := by decide +kernel
theorem dX4_take_4 : decode cX4_take 4 = .ok (.iload_n 1, 1) := by decide +kernel
theorem dX4_take_5 : decode cX4_take 5 = .ok (.iaload, 1) := by decide +kernel
theorem dX4_take_6 : decode cX4_take 6 = .ok (.istore_n 3, 1) := by decide +kernel
theorem dX4_take_7 : decode cX4_take 7 = .ok (.iconst 0, 1) := by decide +kernel
theorem dX4_take_8 : decode cX4_take 8 = .ok (.iload_n 3, 1) := by decide +kernel
theorem dX4_take_9 : decode cX4_take 9 = .ok (.if_icmp .gt 40, 3) := by decide +kernel
theorem dX4_take_12 : decode cX4_take 12 = .ok (.iload_n 3, 1) := by decide +kernel
theorem dX4_take_13 : decode cX4_take 13 = .ok (.iconst 3, 1) := by decide +kernel
theorem dX4_take_14 : decode cX4_take 14 = .ok (.if_icmp .ge 35, 3) := by decide +kernel
theorem dX4_take_17 : decode cX4_take 17 = .ok (.aload_n 0, 1) := by decide +kernel
theorem dX4_take_18 : decode cX4_take 18 = .ok (.getfield 24, 3) := by decide +kernel
theorem dX4_take_21 : decode cX4_take 21 = .ok (.iload_n 1, 1) := by decide +kernel
theorem dX4_take_22 : decode cX4_take 22 = .ok (.iconst 3, 1) := by decide +kernel
theorem dX4_take_23 : decode cX4_take 23 = .ok (.imul, 1) := by decide +kernel
theorem dX4_take_24 : decode cX4_take 24 = .ok (.iload_n 3, 1) := by decide +kernel
theorem dX4_take_25 : decode cX4_take 25 = .ok (.iadd, 1) := by decide +kernel
theorem dX4_take_26 : decode cX4_take 26 = .ok (.iload_n 2, 1) := by decide +kernel
theorem dX4_take_27 : decode cX4_take 27 = .ok (.iastore, 1) := by decide +kernel
theorem dX4_take_28 : decode cX4_take 28 = .ok (.aload_n 0, 1) := by decide +kernel
theorem dX4_take_29 : decode cX4_take 29 = .ok (.getfield 18, 3) := by decide +kernel
theorem dX4_take_32 : decode cX4_take 32 = .ok (.iload_n 1, 1) := by decide +kernel
theorem dX4_take_33 : decode cX4_take 33 = .ok (.iload_n 3, 1) := by decide +kernel
theorem dX4_take_34 : decode cX4_take 34 = .ok (.iconst 1, 1) := by decide +kernel
theorem dX4_take_35 : decode cX4_take 35 = .ok (.iadd, 1) := by decide +kernel
theorem dX4_take_36 : decode cX4_take 36 = .ok (.iastore, 1) := by decide +kernel
theorem dX4_take_37 : decode cX4_take 37 = .ok (.aload_n 0, 1) := by decide +kernel
theorem dX4_take_38 : decode cX4_take 38 = .ok (.dup, 1) := by decide +kernel
theorem dX4_take_39 : decode cX4_take 39 = .ok (.getfield 51, 3) := by decide +kernel
theorem dX4_take_42 : decode cX4_take 42 = .ok (.iconst 1, 1) := by decide +kernel
theorem dX4_take_43 : decode cX4_take 43 = .ok (.iload_n 2, 1) := by decide +kernel
theorem dX4_take_44 : decode cX4_take 44 = .ok (.ishl, 1) := by decide +kernel
theorem dX4_take_45 : decode cX4_take 45 = .ok (.ior, 1) := by decide +kernel
theorem dX4_take_46 : decode cX4_take 46 = .ok (.putfield 51, 3) := by decide +kernel
theorem dX4_take_49 : decode cX4_take 49 = .ok (.return_, 1) := by decide +kernel
theorem dX4_lack_0 : decode cX4_lack 0 = .ok (.aload_n 0, 1) := by decide +kernel
theorem dX4_lack_1 : decode cX4_lack 1 = .ok (.getfield 15, 3) := by decide +kernel
theorem dX4_lack_4 : decode cX4_lack 4 = .ok (.iload_n 1, 1) := by decide +kernel
theorem dX4_lack_5 : decode cX4_lack 5 = .ok (.iaload, 1) := by decide +kernel
theorem dX4_lack_6 : decode cX4_lack 6 = .ok (.aload_n 0, 1) := by decide +kernel
theorem dX4_lack_7 : decode cX4_lack 7 = .ok (.getfield 18, 3) := by decide +kernel
theorem dX4_lack_10 : decode cX4_lack 10 = .ok (.iload_n 1, 1) := by decide +kernel
theorem dX4_lack_11 : decode cX4_lack 11 = .ok (.iaload, 1) := by decide +kernel
theorem dX4_lack_12 : decode cX4_lack 12 = .ok (.isub, 1) := by decide +kernel
theorem dX4_lack_13 : decode cX4_lack 13 = .ok (.ireturn, 1) := by decide +kernel
set_option maxRecDepth 20000 in
theorem ggX4_lackBeyond_X4_lack : GoodIn wsX4_lackBeyond wsX4_lack := goodIn_r _ [9, 10, 11, 12, 13, 14, 15, 16, 17] (by decide +kernel) (by decide +kernel)
set_option maxRecDepth 20000 in
theorem gX4_lackBeyond_X4_lack : GoodIn wsX4_lackBeyond (wsV RX4 68 RX4 yX4_lack wsX4_lack) := goodIn_app (goodIn_of _ (by decide +kernel)) ggX4_lackBeyond_X4_lack
theorem dX4_lackBeyond_0 : decode cX4_lackBeyond 0 = .ok (.iconst 0, 1) := by decide +kernel
theorem dX4_lackBeyond_1 : decode cX4_lackBeyond 1 = .ok (.istore_n 2, 1) := by decide +kernel
theorem dX4_lackBeyond_2 : decode cX4_lackBeyond 2 = .ok (.iconst 0, 1) := by decide +kernel
theorem dX4_lackBeyond_3 : decode cX4_lackBeyond 3 = .ok (.istore_n 3, 1) := by decide +kernel
theorem dX4_lackBeyond_4 : decode cX4_lackBeyond 4 = .ok (.iload_n 3, 1) := by decide +kernel
theorem dX4_lackBeyond_5 : decode cX4_lackBeyond 5 = .ok (.bipush 10, 2) := by decide +kernel
theorem dX4_lackBeyond_7 : decode cX4_lackBeyond 7 = .ok (.if_icmp .ge 27, 3) := by decide +kernel
theorem dX4_lackBeyond_10 : decode cX4_lackBeyond 10 = .ok (.iload_n 2, 1) := by decide +kernel
theorem dX4_lackBeyond_11 : decode cX4_lackBeyond 11 = .ok (.iconst 0, 1) := by decide +kernel
theorem dX4_lackBeyond_12 : decode cX4_lackBeyond 12 = .ok (.aload_n 0, 1) := by decide +kernel
theorem dX4_lackBeyond_13 : decode cX4_lackBeyond 13 = .ok (.iload_n 3, 1) := by decide +kernel
theorem dX4_lackBeyond_14 : decode cX4_lackBeyond 14 = .ok (.invokevirtual 68, 3) := by decide +kernel
theorem dX4_lackBeyond_17 : decode cX4_lackBeyond 17 = .ok (.aload_n 1, 1) := by decide +kernel
theorem dX4_lackBeyond_18 : decode cX4_lackBeyond 18 = .ok (.iload_n 3, 1) := by decide +kernel
theorem dX4_lackBeyond_19 : decode cX4_lackBeyond 19 = .ok (.invokevirtual 68, 3) := by decide +kernel
theorem dX4_lackBeyond_22 : decode cX4_lackBeyond 22 = .ok (.isub, 1) := by decide +kernel
theorem dX4_lackBeyond_23 : decode cX4_lackBeyond 23 = .ok (.invokestatic 82, 3) := by decide +kernel
theorem dX4_lackBeyond_26 : decode cX4_lackBeyond 26 = .ok (.iadd, 1) := by decide +kernel
theorem dX4_lackBeyond_27 : decode cX4_lackBeyond 27 = .ok (.istore_n 2, 1) := by decide +kernel
theorem dX4_lackBeyond_28 : decode cX4_lackBeyond 28 = .ok (.iinc 3 1, 3) := by decide +kernel
theorem dX4_lackBeyond_31 : decode cX4_lackBeyond 31 = .ok (.goto (-27), 3) := by decide +kernel
theorem dX4_lackBeyond_34 : decode cX4_lackBeyond 34 = .ok (.iload_n 2, 1) := by decide +kernel
theorem dX4_lackBeyond_35 : decode cX4_lackBeyond 35 = .ok (.ireturn, 1) := by decide +kernel
set_option maxRecDepth 20000 in
theorem ggX4_takenAt_X6_isFloor : GoodIn wsX4_takenAt wsX6_isFloor := goodIn_r _ [5] (by decide +kernel) (by decide +kernel)
set_option maxRecDepth 20000 in
theorem gX4_takenAt_X6_isFloor_n64 : GoodIn wsX4_takenAt (wsX6_isFloor) := ggX4_takenAt_X6_isFloor
set_option maxRecDepth 20000 in
theorem ggX4_takenAt_X6_isWithin : GoodIn wsX4_takenAt wsX6_isWithin := goodIn_r _ [7] (by decide +kernel) (by decide +kernel)
set_option maxRecDepth 20000 in
theorem gX4_takenAt_X6_isWithin_n87 : GoodIn wsX4_takenAt (wsX6_isWithin) := ggX4_takenAt_X6_isWithin
theorem dX4_takenAt_0 : decode cX4_takenAt 0 = .ok (.iload_n 1, 1) := by decide +kernel
theorem dX4_takenAt_1 : decode cX4_takenAt 1 = .ok (.invokestatic 64, 3) := by decide +kernel
theorem dX4_takenAt_4 : decode cX4_takenAt 4 = .ok (.ifCond .eq 22, 3) := by decide +kernel
theorem dX4_takenAt_7 : decode cX4_takenAt 7 = .ok (.iload_n 2, 1) := by decide +kernel
theorem dX4_takenAt_8 : decode cX4_takenAt 8 = .ok (.iconst 0, 1) := by decide +kernel
theorem dX4_takenAt_9 : decode cX4_takenAt 9 = .ok (.iconst 2, 1) := by decide +kernel
theorem dX4_takenAt_10 : decode cX4_takenAt 10 = .ok (.invokestatic 87, 3) := by decide +kernel
theorem dX4_takenAt_13 : decode cX4_takenAt 13 = .ok (.ifCond .eq 13, 3) := by decide +kernel
theorem dX4_takenAt_16 : decode cX4_takenAt 16 = .ok (.iload_n 2, 1) := by decide +kernel
theorem dX4_takenAt_17 : decode cX4_takenAt 17 = .ok (.aload_n 0, 1) := by decide +kernel
theorem dX4_takenAt_18 : decode cX4_takenAt 18 = .ok (.getfield 18, 3) := by decide +kernel
theorem dX4_takenAt_21 : decode cX4_takenAt 21 = .ok (.iload_n 1, 1) := by decide +kernel
theorem dX4_takenAt_22 : decode cX4_takenAt 22 = .ok (.iaload, 1) := by decide +kernel
theorem dX4_takenAt_23 : decode cX4_takenAt 23 = .ok (.if_icmp .lt 6, 3) := by decide +kernel
theorem dX4_takenAt_26 : decode cX4_takenAt 26 = .ok (.bipush (-5), 2) := by decide +kernel
theorem dX4_takenAt_28 : decode cX4_takenAt 28 = .ok (.ireturn, 1) := by decide +kernel
theorem dX4_takenAt_29 : decode cX4_takenAt 29 = .ok (.aload_n 0, 1) := by decide +kernel
theorem dX4_takenAt_30 : decode cX4_takenAt 30 = .ok (.getfield 24, 3) := by decide +kernel
theorem dX4_takenAt_33 : decode cX4_takenAt 33 = .ok (.iload_n 1, 1) := by decide +kernel
theorem dX4_takenAt_34 : decode cX4_takenAt 34 = .ok (.iconst 3, 1) := by decide +kernel
theorem dX4_takenAt_35 : decode cX4_takenAt 35 = .ok (.imul, 1) := by decide +kernel
theorem dX4_takenAt_36 : decode cX4_takenAt 36 = .ok (.iload_n 2, 1) := by decide +kernel
theorem dX4_takenAt_37 : decode cX4_takenAt 37 = .ok (.iadd, 1) := by decide +kernel
theorem dX4_takenAt_38 : decode cX4_takenAt 38 = .ok (.iaload, 1) := by decide +kernel
theorem dX4_takenAt_39 : decode cX4_takenAt 39 = .ok (.ireturn, 1) := by decide +kernel
set_option maxRecDepth 20000 in
theorem ggX4_floorOf_X6_isIn : GoodIn wsX4_floorOf wsX6_isIn := goodIn_r _ [4] (by decide +kernel) (by decide +kernel)
set_option maxRecDepth 20000 in
theorem gX4_floorOf_X6_isIn_n75 : GoodIn wsX4_floorOf (wsX6_isIn) := ggX4_floorOf_X6_isIn
set_option maxRecDepth 20000 in
theorem ggX4_floorOf_X4_takenAt : GoodIn wsX4_floorOf wsX4_takenAt := goodIn_r _ [9, 10, 11, 12, 3, 13, 14, 15, 16, 17, 18, 19, 20, 21] (by decide +kernel) (by decide +kernel)
set_option maxRecDepth 20000 in
theorem gX4_floorOf_X4_takenAt : GoodIn wsX4_floorOf (wsV RX4 91 RX4 yX4_takenAt wsX4_takenAt) := goodIn_app (goodIn_of _ (by decide +kernel)) ggX4_floorOf_X4_takenAt
theorem dX4_floorOf_0 : decode cX4_floorOf 0 = .ok (.aload_n 0, 1) := by decide +kernel
theorem dX4_floorOf_1 : decode cX4_floorOf 1 = .ok (.getfield 51, 3) := by decide +kernel
theorem dX4_floorOf_4 : decode cX4_floorOf 4 = .ok (.iload_n 1, 1) := by decide +kernel
theorem dX4_floorOf_5 : decode cX4_floorOf 5 = .ok (.invokestatic 75, 3) := by decide +kernel
theorem dX4_floorOf_8 : decode cX4_floorOf 8 = .ok (.ifCond .ne 6, 3) := by decide +kernel
theorem dX4_floorOf_11 : decode cX4_floorOf 11 = .ok (.bipush (-5), 2) := by decide +kernel
theorem dX4_floorOf_13 : decode cX4_floorOf 13 = .ok (.ireturn, 1) := by decide +kernel
theorem dX4_floorOf_14 : decode cX4_floorOf 14 = .ok (.iconst 0, 1) := by decide +kernel
theorem dX4_floorOf_15 : decode cX4_floorOf 15 = .ok (.istore_n 2, 1) := by decide +kernel
theorem dX4_floorOf_16 : decode cX4_floorOf 16 = .ok (.iload_n 2, 1) := by decide +kernel
theorem dX4_floorOf_17 : decode cX4_floorOf 17 = .ok (.bipush 10, 2) := by decide +kernel
theorem dX4_floorOf_19 : decode cX4_floorOf 19 = .ok (.if_icmp .ge 34, 3) := by decide +kernel
theorem dX4_floorOf_22 : decode cX4_floorOf 22 = .ok (.iconst 0, 1) := by decide +kernel
theorem dX4_floorOf_23 : decode cX4_floorOf 23 = .ok (.istore_n 3, 1) := by decide +kernel
theorem dX4_floorOf_24 : decode cX4_floorOf 24 = .ok (.iload_n 3, 1) := by decide +kernel
theorem dX4_floorOf_25 : decode cX4_floorOf 25 = .ok (.iconst 3, 1) := by decide +kernel
theorem dX4_floorOf_26 : decode cX4_floorOf 26 = .ok (.if_icmp .ge 21, 3) := by decide +kernel
theorem dX4_floorOf_29 : decode cX4_floorOf 29 = .ok (.aload_n 0, 1) := by decide +kernel
theorem dX4_floorOf_30 : decode cX4_floorOf 30 = .ok (.iload_n 2, 1) := by decide +kernel
theorem dX4_floorOf_31 : decode cX4_floorOf 31 = .ok (.iload_n 3, 1) := by decide +kernel
theorem dX4_floorOf_32 : decode cX4_floorOf 32 = .ok (.invokevirtual 91, 3) := by decide +kernel
theorem dX4_floorOf_35 : decode cX4_floorOf 35 = .ok (.iload_n 1, 1) := by decide +kernel
theorem dX4_floorOf_36 : decode cX4_floorOf 36 = .ok (.if_icmp .ne 5, 3) := by decide +kernel
theorem dX4_floorOf_39 : decode cX4_floorOf 39 = .ok (.iload_n 2, 1) := by decide +kernel
theorem dX4_floorOf_40 : decode cX4_floorOf 40 = .ok (.ireturn, 1) := by decide +kernel
theorem dX4_floorOf_41 : decode cX4_floorOf 41 = .ok (.iinc 3 1, 3) := by decide +kernel
theorem dX4_floorOf_44 : decode cX4_floorOf 44 = .ok (.goto (-20), 3) := by decide +kernel
theorem dX4_floorOf_47 : decode cX4_floorOf 47 = .ok (.iinc 2 1, 3) := by decide +kernel
theorem dX4_floorOf_50 : decode cX4_floorOf 50 = .ok (.goto (-34), 3) := by decide +kernel
theorem dX4_floorOf_53 : decode cX4_floorOf 53 = .ok (.bipush (-5), 2) := by decide +kernel
theorem dX4_floorOf_55 : decode cX4_floorOf 55 = .ok (.ireturn, 1) := by decide +kernel
set_option maxRecDepth 20000 in
theorem ggX5_init_X2_init : GoodIn wsX5_init wsX2_init := goodIn_r _ [20, 21, 2, 3, 4, 22, 23, 24, 43, 44, 45, 46] (by decide +kernel) (by decide +kernel)
set_option maxRecDepth 20000 in
theorem gX5_init_X2_init : GoodIn wsX5_init (wsX2_init) := ggX5_init_X2_init
set_option maxRecDepth 20000 in
theorem ggX5_init_X0_init : GoodIn wsX5_init wsX0_init := goodIn_r _ [27, 28, 2, 3, 4, 29, 30, 31, 32, 33, 34, 47, 48, 49, 50, 51, 52, 53] (by decide +kernel) (by decide +kernel)
set_option maxRecDepth 20000 in
theorem gX5_init_X0_init : GoodIn wsX5_init (wsX0_init) := ggX5_init_X0_init
theorem dX5_init_0 : decode cX5_init 0 = .ok (.aload_n 0, 1) := by decide +kernel
theorem dX5_init_1 : decode cX5_init 1 = .ok (.invokespecial 3, 3) := by decide +kernel
theorem dX5_init_4 : decode cX5_init 4 = .ok (.aload_n 0, 1) := by decide +kernel
theorem dX5_init_5 : decode cX5_init 5 = .ok (.iconst 3, 1) := by decide +kernel
theorem dX5_init_6 : decode cX5_init 6 = .ok (.newarray .int, 2) := by decide +kernel
theorem dX5_init_8 : decode cX5_init 8 = .ok (.putfield 9, 3) := by decide +kernel
theorem dX5_init_11 : decode cX5_init 11 = .ok (.aload_n 0, 1) := by decide +kernel
theorem dX5_init_12 : decode cX5_init 12 = .ok (.bipush 10, 2) := by decide +kernel
theorem dX5_init_14 : decode cX5_init 14 = .ok (.newarray .int, 2) := by decide +kernel
theorem dX5_init_16 : decode cX5_init 16 = .ok (.putfield 15, 3) := by decide +kernel
theorem dX5_init_19 : decode cX5_init 19 = .ok (.aload_n 0, 1) := by decide +kernel
theorem dX5_init_20 : decode cX5_init 20 = .ok (.bipush 10, 2) := by decide +kernel
theorem dX5_init_22 : decode cX5_init 22 = .ok (.newarray .int, 2) := by decide +kernel
theorem dX5_init_24 : decode cX5_init 24 = .ok (.putfield 18, 3) := by decide +kernel
theorem dX5_init_27 : decode cX5_init 27 = .ok (.aload_n 0, 1) := by decide +kernel
theorem dX5_init_28 : decode cX5_init 28 = .ok (.bipush 50, 2) := by decide +kernel
theorem dX5_init_30 : decode cX5_init 30 = .ok (.newarray .int, 2) := by decide +kernel
theorem dX5_init_32 : decode cX5_init 32 = .ok (.putfield 21, 3) := by decide +kernel
theorem dX5_init_35 : decode cX5_init 35 = .ok (.aload_n 0, 1) := by decide +kernel
theorem dX5_init_36 : decode cX5_init 36 = .ok (.bipush 16, 2) := by decide +kernel
theorem dX5_init_38 : decode cX5_init 38 = .ok (.newarray .int, 2) := by decide +kernel
theorem dX5_init_40 : decode cX5_init 40 = .ok (.putfield 24, 3) := by decide +kernel
theorem dX5_init_43 : decode cX5_init 43 = .ok (.aload_n 0, 1) := by decide +kernel
theorem dX5_init_44 : decode cX5_init 44 = .ok (.new 27, 3) := by decide +kernel
theorem dX5_init_47 : decode cX5_init 47 = .ok (.dup, 1) := by decide +kernel
theorem dX5_init_48 : decode cX5_init 48 = .ok (.invokespecial 29, 3) := by decide +kernel
theorem dX5_init_51 : decode cX5_init 51 = .ok (.putfield 30, 3) := by decide +kernel
theorem dX5_init_54 : decode cX5_init 54 = .ok (.aload_n 0, 1) := by decide +kernel
theorem dX5_init_55 : decode cX5_init 55 = .ok (.new 34, 3) := by decide +kernel
theorem dX5_init_58 : decode cX5_init 58 = .ok (.dup, 1) := by decide +kernel
theorem dX5_init_59 : decode cX5_init 59 = .ok (.invokespecial 36, 3) := by decide +kernel
theorem dX5_init_62 : decode cX5_init 62 = .ok (.putfield 37, 3) := by decide +kernel
theorem dX5_init_65 : decode cX5_init 65 = .ok (.iconst 0, 1) := by decide +kernel
theorem dX5_init_66 : decode cX5_init 66 = .ok (.istore_n 1, 1) := by decide +kernel
theorem dX5_init_67 : decode cX5_init 67 = .ok (.iload_n 1, 1) := by decide +kernel
theorem dX5_init_68 : decode cX5_init 68 = .ok (.bipush 10, 2) := by decide +kernel
theorem dX5_init_70 : decode cX5_init 70 = .ok (.if_icmp .ge 16, 3) := by decide +kernel
theorem dX5_init_73 : decode cX5_init 73 = .ok (.aload_n 0, 1) := by decide +kernel
theorem dX5_init_74 : decode cX5_init 74 = .ok (.getfield 15, 3) := by decide +kernel
theorem dX5_init_77 : decode cX5_init 77 = .ok (.iload_n 1, 1) := by decide +kernel
theorem dX5_init_78 : decode cX5_init 78 = .ok (.iconst 1, 1) := by decide +kernel
theorem dX5_init_79 : decode cX5_init 79 = .ok (.iastore, 1) := by decide +kernel
theorem dX5_init_80 : decode cX5_init 80 = .ok (.iinc 1 1, 3) := by decide +kernel
theorem dX5_init_83 : decode cX5_init 83 = .ok (.goto (-16), 3) := by decide +kernel
theorem dX5_init_86 : decode cX5_init 86 = .ok (.iconst 0, 1) := by decide +kernel
theorem dX5_init_87 : decode cX5_init 87 = .ok (.istore_n 1, 1) := by decide +kernel
theorem dX5_init_88 : decode cX5_init 88 = .ok (.iload_n 1, 1) := by decide +kernel
theorem dX5_init_89 : decode cX5_init 89 = .ok (.bipush 16, 2) := by decide +kernel
theorem dX5_init_91 : decode cX5_init 91 = .ok (.if_icmp .ge 18, 3) := by decide +kernel
theorem dX5_init_94 : decode cX5_init 94 = .ok (.aload_n 0, 1) := by decide +kernel
theorem dX5_init_95 : decode cX5_init 95 = .ok (.getfield 24, 3) := by decide +kernel
theorem dX5_init_98 : decode cX5_init 98 = .ok (.iload_n 1, 1) := by decide +kernel
theorem dX5_init_99 : decode cX5_init 99 = .ok (.sipush 399, 3) := by decide +kernel
theorem dX5_init_102 : decode cX5_init 102 = .ok (.iastore, 1) := by decide +kernel
theorem dX5_init_103 : decode cX5_init 103 = .ok (.iinc 1 1, 3) := by decide +kernel
theorem dX5_init_106 : decode cX5_init 106 = .ok (.goto (-18), 3) := by decide +kernel
theorem dX5_init_109 : decode cX5_init 109 = .ok (.return_, 1) := by decide +kernel
set_option maxRecDepth 20000 in
theorem ggX5_copyFrom_X6_copy : GoodIn wsX5_copyFrom wsX6_copy := goodIn_r _ [11, 12, 13, 14, 15] (by decide +kernel) (by decide +kernel)
set_option maxRecDepth 20000 in
theorem gX5_copyFrom_X6_copy_n45 : GoodIn wsX5_copyFrom (wsX6_copy) := ggX5_copyFrom_X6_copy
set_option maxRecDepth 20000 in
theorem ggX5_copyFrom_X2_copyFrom : GoodIn wsX5_copyFrom wsX2_copyFrom := goodIn_r _ [20, 21, 22, 23, 24, 9, 10, 11, 12, 13, 14, 15, 45, 46, 47, 48] (by decide +kernel) (by decide +kernel)
set_option maxRecDepth 20000 in
theorem gX5_copyFrom_X2_copyFrom : GoodIn wsX5_copyFrom (wsV RX5 49 RX2 yX2_copyFrom wsX2_copyFrom) := goodIn_app (goodIn_of _ (by decide +kernel)) ggX5_copyFrom_X2_copyFrom
set_option maxRecDepth 20000 in
theorem ggX5_copyFrom_X0_copyFrom : GoodIn wsX5_copyFrom wsX0_copyFrom := goodIn_r _ [29, 30, 31, 32, 33, 34, 35, 36, 9, 10, 11, 12, 13, 14, 15, 49, 50, 51, 52, 53, 54, 55] (by decide +kernel) (by decide +kernel)
set_option maxRecDepth 20000 in
theorem gX5_copyFrom_X0_copyFrom : GoodIn wsX5_copyFrom (wsV RX5 53 RX0 yX0_copyFrom wsX0_copyFrom) := goodIn_app (goodIn_of _ (by decide +kernel)) ggX5_copyFrom_X0_copyFrom
theorem dX5_copyFrom_0 : decode cX5_copyFrom 0 = .ok (.aload_n 0, 1) := by decide +kernel
theorem dX5_copyFrom_1 : decode cX5_copyFrom 1 = .ok (.aload_n 1, 1) := by decide +kernel
theorem dX5_copyFrom_2 : decode cX5_copyFrom 2 = .ok (.getfield 41, 3) := by decide +kernel
theorem dX5_copyFrom_5 : decode cX5_copyFrom 5 = .ok (.putfield 41, 3) := by decide +kernel
theorem dX5_copyFrom_8 : decode cX5_copyFrom 8 = .ok (.aload_n 1, 1) := by decide +kernel
theorem dX5_copyFrom_9 : decode cX5_copyFrom 9 = .ok (.getfield 9, 3) := by decide +kernel
theorem dX5_copyFrom_12 : decode cX5_copyFrom 12 = .ok (.aload_n 0, 1) := by decide +kernel
theorem dX5_copyFrom_13 : decode cX5_copyFrom 13 = .ok (.getfield 9, 3) := by decide +kernel
theorem dX5_copyFrom_16 : decode cX5_copyFrom 16 = .ok (.invokestatic 45, 3) := by decide +kernel
theorem dX5_copyFrom_19 : decode cX5_copyFrom 19 = .ok (.aload_n 1, 1) := by decide +kernel
theorem dX5_copyFrom_20 : decode cX5_copyFrom 20 = .ok (.getfield 15, 3) := by decide +kernel
theorem dX5_copyFrom_23 : decode cX5_copyFrom 23 = .ok (.aload_n 0, 1) := by decide +kernel
theorem dX5_copyFrom_24 : decode cX5_copyFrom 24 = .ok (.getfield 15, 3) := by decide +kernel
theorem dX5_copyFrom_27 : decode cX5_copyFrom 27 = .ok (.invokestatic 45, 3) := by decide +kernel
theorem dX5_copyFrom_30 : decode cX5_copyFrom 30 = .ok (.aload_n 1, 1) := by decide +kernel
theorem dX5_copyFrom_31 : decode cX5_copyFrom 31 = .ok (.getfield 18, 3) := by decide +kernel
theorem dX5_copyFrom_34 : decode cX5_copyFrom 34 = .ok (.aload_n 0, 1) := by decide +kernel
theorem dX5_copyFrom_35 : decode cX5_copyFrom 35 = .ok (.getfield 18, 3) := by decide +kernel
theorem dX5_copyFrom_38 : decode cX5_copyFrom 38 = .ok (.invokestatic 45, 3) := by decide +kernel
theorem dX5_copyFrom_41 : decode cX5_copyFrom 41 = .ok (.aload_n 1, 1) := by decide +kernel
theorem dX5_copyFrom_42 : decode cX5_copyFrom 42 = .ok (.getfield 21, 3) := by decide +kernel
theorem dX5_copyFrom_45 : decode cX5_copyFrom 45 = .ok (.aload_n 0, 1) := by decide +kernel
theorem dX5_copyFrom_46 : decode cX5_copyFrom 46 = .ok (.getfield 21, 3) := by decide +kernel
theorem dX5_copyFrom_49 : decode cX5_copyFrom 49 = .ok (.invokestatic 45, 3) := by decide +kernel
theorem dX5_copyFrom_52 : decode cX5_copyFrom 52 = .ok (.aload_n 1, 1) := by decide +kernel
theorem dX5_copyFrom_53 : decode cX5_copyFrom 53 = .ok (.getfield 24, 3) := by decide +kernel
theorem dX5_copyFrom_56 : decode cX5_copyFrom 56 = .ok (.aload_n 0, 1) := by decide +kernel
theorem dX5_copyFrom_57 : decode cX5_copyFrom 57 = .ok (.getfield 24, 3) := by decide +kernel
theorem dX5_copyFrom_60 : decode cX5_copyFrom 60 = .ok (.invokestatic 45, 3) := by decide +kernel
theorem dX5_copyFrom_63 : decode cX5_copyFrom 63 = .ok (.aload_n 0, 1) := by decide +kernel
theorem dX5_copyFrom_64 : decode cX5_copyFrom 64 = .ok (.getfield 30, 3) := by decide +kernel
theorem dX5_copyFrom_67 : decode cX5_copyFrom 67 = .ok (.aload_n 1, 1) := by decide +kernel
theorem dX5_copyFrom_68 : decode cX5_copyFrom 68 = .ok (.getfield 30, 3) := by decide +kernel
theorem dX5_copyFrom_71 : decode cX5_copyFrom 71 = .ok (.invokevirtual 49, 3) := by decide +kernel
theorem dX5_copyFrom_74 : decode cX5_copyFrom 74 = .ok (.aload_n 0, 1) := by decide +kernel
theorem dX5_copyFrom_75 : decode cX5_copyFrom 75 = .ok (.getfield 37, 3) := by decide +kernel
theorem dX5_copyFrom_78 : decode cX5_copyFrom 78 = .ok (.aload_n 1, 1) := by decide +kernel
theorem dX5_copyFrom_79 : decode cX5_copyFrom 79 = .ok (.getfield 37, 3) := by decide +kernel
theorem dX5_copyFrom_82 : decode cX5_copyFrom 82 = .ok (.invokevirtual 53, 3) := by decide +kernel
theorem dX5_copyFrom_85 : decode cX5_copyFrom 85 = .ok (.return_, 1) := by decide +kernel
theorem dX5_personAt_0 : decode cX5_personAt 0 = .ok (.iconst 0, 1) := by decide +kernel
theorem dX5_personAt_1 : decode cX5_personAt 1 = .ok (.iload_n 2, 1) := by decide +kernel
theorem dX5_personAt_2 : decode cX5_personAt 2 = .ok (.if_icmp .gt 22, 3) := by decide +kernel
theorem dX5_personAt_5 : decode cX5_personAt 5 = .ok (.iload_n 2, 1) := by decide +kernel
theorem dX5_personAt_6 : decode cX5_personAt 6 = .ok (.iconst 5, 1) := by decide +kernel
theorem dX5_personAt_7 : decode cX5_personAt 7 = .ok (.if_icmp .ge 17, 3) := by decide +kernel
theorem dX5_personAt_10 : decode cX5_personAt 10 = .ok (.iload_n 2, 1) := by decide +kernel
theorem dX5_personAt_11 : decode cX5_personAt 11 = .ok (.aload_n 0, 1) := by decide +kernel
theorem dX5_personAt_12 : decode cX5_personAt 12 = .ok (.getfield 18, 3) := by decide +kernel
theorem dX5_personAt_15 : decode cX5_personAt 15 = .ok (.iload_n 1, 1) := by decide +kernel
theorem dX5_personAt_16 : decode cX5_personAt 16 = .ok (.iaload, 1) := by decide +kernel
theorem dX5_personAt_17 : decode cX5_personAt 17 = .ok (.if_icmp .ge 7, 3) := by decide +kernel
theorem dX5_personAt_20 : decode cX5_personAt 20 = .ok (.iconst 1, 1) := by decide +kernel
theorem dX5_personAt_21 : decode cX5_personAt 21 = .ok (.goto 4, 3) := by decide +kernel
theorem dX5_personAt_24 : decode cX5_personAt 24 = .ok (.iconst 0, 1) := by decide +kernel
theorem dX5_personAt_25 : decode cX5_personAt 25 = .ok (.istore_n 3, 1) := by decide +kernel
theorem dX5_personAt_26 : decode cX5_personAt 26 = .ok (.iload_n 3, 1) := by decide +kernel
theorem dX5_personAt_27 : decode cX5_personAt 27 = .ok (.ifCond .eq 16, 3) := by decide +kernel
theorem dX5_personAt_30 : decode cX5_personAt 30 = .ok (.aload_n 0, 1) := by decide +kernel
theorem dX5_personAt_31 : decode cX5_personAt 31 = .ok (.getfield 21, 3) := by decide +kernel
theorem dX5_personAt_34 : decode cX5_personAt 34 = .ok (.iload_n 1, 1) := by decide +kernel
theorem dX5_personAt_35 : decode cX5_personAt 35 = .ok (.iconst 5, 1) := by decide +kernel
theorem dX5_personAt_36 : decode cX5_personAt 36 = .ok (.imul, 1) := by decide +kernel
theorem dX5_personAt_37 : decode cX5_personAt 37 = .ok (.iload_n 2, 1) := by decide +kernel
theorem dX5_personAt_38 : decode cX5_personAt 38 = .ok (.iadd, 1) := by decide +kernel
theorem dX5_personAt_39 : decode cX5_personAt 39 = .ok (.iaload, 1) := by decide +kernel
theorem dX5_personAt_40 : decode cX5_personAt 40 = .ok (.goto 5, 3) := by decide +kernel
theorem dX5_personAt_43 : decode cX5_personAt 43 = .ok (.bipush (-5), 2) := by decide +kernel
theorem dX5_personAt_45 : decode cX5_personAt 45 = .ok (.ireturn, 1) := by decide +kernel
set_option maxRecDepth 20000 in
theorem ggX5_placeOf_X5_personAt : GoodIn wsX5_placeOf wsX5_personAt := goodIn_r _ [5, 6, 7, 8, 9, 10, 11, 12, 13, 14, 15] (by decide +kernel) (by decide +kernel)
set_option maxRecDepth 20000 in
theorem gX5_placeOf_X5_personAt : GoodIn wsX5_placeOf (wsV RX5 56 RX5 yX5_personAt wsX5_personAt) := goodIn_app (goodIn_of _ (by decide +kernel)) ggX5_placeOf_X5_personAt
theorem dX5_placeOf_0 : decode cX5_placeOf 0 = .ok (.iconst 0, 1) := by decide +kernel
theorem dX5_placeOf_1 : decode cX5_placeOf 1 = .ok (.istore_n 3, 1) := by decide +kernel
theorem dX5_placeOf_2 : decode cX5_placeOf 2 = .ok (.iload_n 3, 1) := by decide +kernel
theorem dX5_placeOf_3 : decode cX5_placeOf 3 = .ok (.iconst 5, 1) := by decide +kernel
theorem dX5_placeOf_4 : decode cX5_placeOf 4 = .ok (.if_icmp .ge 21, 3) := by decide +kernel
theorem dX5_placeOf_7 : decode cX5_placeOf 7 = .ok (.aload_n 0, 1) := by decide +kernel
theorem dX5_placeOf_8 : decode cX5_placeOf 8 = .ok (.iload_n 1, 1) := by decide +kernel
theorem dX5_placeOf_9 : decode cX5_placeOf 9 = .ok (.iload_n 3, 1) := by decide +kernel
theorem dX5_placeOf_10 : decode cX5_placeOf 10 = .ok (.invokevirtual 56, 3) := by decide +kernel
theorem dX5_placeOf_13 : decode cX5_placeOf 13 = .ok (.iload_n 2, 1) := by decide +kernel
theorem dX5_placeOf_14 : decode cX5_placeOf 14 = .ok (.if_icmp .ne 5, 3) := by decide +kernel
theorem dX5_placeOf_17 : decode cX5_placeOf 17 = .ok (.iload_n 3, 1) := by decide +kernel
theorem dX5_placeOf_18 : decode cX5_placeOf 18 = .ok (.ireturn, 1) := by decide +kernel
theorem dX5_placeOf_19 : decode cX5_placeOf 19 = .ok (.iinc 3 1, 3) := by decide +kernel
theorem dX5_placeOf_22 : decode cX5_placeOf 22 = .ok (.goto (-20), 3) := by decide +kernel
theorem dX5_placeOf_25 : decode cX5_placeOf 25 = .ok (.bipush (-5), 2) := by decide +kernel
theorem dX5_placeOf_27 : decode cX5_placeOf 27 = .ok (.ireturn, 1) := by decide +kernel
set_option maxRecDepth 20000 in
theorem ggX5_appendToRow_X6_isWithin : GoodIn wsX5_appendToRow wsX6_isWithin := goodIn_r _ [5] (by decide +kernel) (by decide +kernel)
set_option maxRecDepth 20000 in
theorem gX5_appendToRow_X6_isWithin_n60 : GoodIn wsX5_appendToRow (wsX6_isWithin) := ggX5_appendToRow_X6_isWithin
theorem dX5_appendToRow_0 : decode cX5_appendToRow 0 = .ok (.aload_n 0, 1) := by decide +kernel
theorem dX5_appendToRow_1 : decode cX5_appendToRow 1 = .ok (.getfield 18, 3) := by decide +kernel
theorem dX5_appendToRow_4 : decode cX5_appendToRow 4 = .ok (.iload_n 1, 1) := by decide +kernel
theorem dX5_appendToRow_5 : decode cX5_appendToRow 5 = .ok (.iaload, 1) := by decide +kernel
theorem dX5_appendToRow_6 : decode cX5_appendToRow 6 = .ok (.istore_n 3, 1) := by decide +kernel
theorem dX5_appendToRow_7 : decode cX5_appendToRow 7 = .ok (.iload_n 3, 1) := by decide +kernel
theorem dX5_appendToRow_8 : decode cX5_appendToRow 8 = .ok (.iconst 0, 1) := by decide +kernel
theorem dX5_appendToRow_9 : decode cX5_appendToRow 9 = .ok (.iconst 4, 1) := by decide +kernel
theorem dX5_appendToRow_10 : decode cX5_appendToRow 10 = .ok (.invokestatic 60, 3) := by decide +kernel
theorem dX5_appendToRow_13 : decode cX5_appendToRow 13 = .ok (.ifCond .ne 6, 3) := by decide +kernel
theorem dX5_appendToRow_16 : decode cX5_appendToRow 16 = .ok (.bipush (-3), 2) := by decide +kernel
theorem dX5_appendToRow_18 : decode cX5_appendToRow 18 = .ok (.ireturn, 1) := by decide +kernel
theorem dX5_appendToRow_19 : decode cX5_appendToRow 19 = .ok (.aload_n 0, 1) := by decide +kernel
theorem dX5_appendToRow_20 : decode cX5_appendToRow 20 = .ok (.getfield 21, 3) := by decide +kernel
theorem dX5_appendToRow_23 : decode cX5_appendToRow 23 = .ok (.iload_n 1, 1) := by decide +kernel
theorem dX5_appendToRow_24 : decode cX5_appendToRow 24 = .ok (.iconst 5, 1) := by decide +kernel
theorem dX5_appendToRow_25 : decode cX5_appendToRow 25 = .ok (.imul, 1) := by decide +kernel
theorem dX5_appendToRow_26 : decode cX5_appendToRow 26 = .ok (.iload_n 3, 1) := by decide +kernel
theorem dX5_appendToRow_27 : decode cX5_appendToRow 27 = .ok (.iadd, 1) := by decide +kernel
theorem dX5_appendToRow_28 : decode cX5_appendToRow 28 = .ok (.iload_n 2, 1) := by decide +kernel
theorem dX5_appendToRow_29 : decode cX5_appendToRow 29 = .ok (.iastore, 1) := by decide +kernel
theorem dX5_appendToRow_30 : decode cX5_appendToRow 30 = .ok (.aload_n 0, 1) := by decide +kernel
theorem dX5_appendToRow_31 : decode cX5_appendToRow 31 = .ok (.getfield 18, 3) := by decide +kernel
theorem dX5_appendToRow_34 : decode cX5_appendToRow 34 = .ok (.iload_n 1, 1) := by decide +kernel
theorem dX5_appendToRow_35 : decode cX5_appendToRow 35 = .ok (.iload_n 3, 1) := by decide +kernel
theorem dX5_appendToRow_36 : decode cX5_appendToRow 36 = .ok (.iconst 1, 1) := by decide +kernel
theorem dX5_appendToRow_37 : decode cX5_appendToRow 37 = .ok (.iadd, 1) := by decide +kernel
theorem dX5_appendToRow_38 : decode cX5_appendToRow 38 = .ok (.iastore, 1) := by decide +kernel
theorem dX5_appendToRow_39 : decode cX5_appendToRow 39 = .ok (.iload_n 3, 1) := by decide +kernel
theorem dX5_appendToRow_40 : decode cX5_appendToRow 40 = .ok (.iconst 1, 1) := by decide +kernel
theorem dX5_appendToRow_41 : decode cX5_appendToRow 41 = .ok (.iadd, 1) := by decide +kernel
theorem dX5_appendToRow_42 : decode cX5_appendToRow 42 = .ok (.ireturn, 1) := by decide +kernel
theorem dX5_removeFromRow_0 : decode cX5_removeFromRow 0 = .ok (.iload_n 1, 1) := by decide +kernel
theorem dX5_removeFromRow_1 : decode cX5_removeFromRow 1 = .ok (.iconst 5, 1) := by decide +kernel
theorem dX5_removeFromRow_2 : decode cX5_removeFromRow 2 = .ok (.imul, 1) := by decide +kernel
theorem dX5_removeFromRow_3 : decode cX5_removeFromRow 3 = .ok (.istore_n 3, 1) := by decide +kernel
theorem dX5_removeFromRow_4 : decode cX5_removeFromRow 4 = .ok (.iload_n 2, 1) := by decide +kernel
theorem dX5_removeFromRow_5 : decode cX5_removeFromRow 5 = .ok (.iconst 0, 1) := by decide +kernel
theorem dX5_removeFromRow_6 : decode cX5_removeFromRow 6 = .ok (.invokestatic 64, 3) := by decide +kernel
theorem dX5_removeFromRow_9 : decode cX5_removeFromRow 9 = .ok (.iconst 1, 1) := by decide +kernel
theorem dX5_removeFromRow_10 : decode cX5_removeFromRow 10 = .ok (.iadd, 1) := by decide +kernel
theorem dX5_removeFromRow_11 : decode cX5_removeFromRow 11 = .ok (.istore 4, 2) := by decide +kernel
theorem dX5_removeFromRow_13 : decode cX5_removeFromRow 13 = .ok (.iload 4, 2) := by decide +kernel
theorem dX5_removeFromRow_15 : decode cX5_removeFromRow 15 = .ok (.iconst 5, 1) := by decide +kernel
theorem dX5_removeFromRow_16 : decode cX5_removeFromRow 16 = .ok (.if_icmp .ge 29, 3) := by decide +kernel
theorem dX5_removeFromRow_19 : decode cX5_removeFromRow 19 = .ok (.aload_n 0, 1) := by decide +kernel
theorem dX5_removeFromRow_20 : decode cX5_removeFromRow 20 = .ok (.getfield 21, 3) := by decide +kernel
theorem dX5_removeFromRow_23 : decode cX5_removeFromRow 23 = .ok (.iload_n 3, 1) := by decide +kernel
theorem dX5_removeFromRow_24 : decode cX5_removeFromRow 24 = .ok (.iload 4, 2) := by decide +kernel
theorem dX5_removeFromRow_26 : decode cX5_removeFromRow 26 = .ok (.iadd, 1) := by decide +kernel
theorem dX5_removeFromRow_27 : decode cX5_removeFromRow 27 = .ok (.iconst 1, 1) := by decide +kernel
theorem dX5_removeFromRow_28 : decode cX5_removeFromRow 28 = .ok (.isub, 1) := by decide +kernel
theorem dX5_removeFromRow_29 : decode cX5_removeFromRow 29 = .ok (.aload_n 0, 1) := by decide +kernel
theorem dX5_removeFromRow_30 : decode cX5_removeFromRow 30 = .ok (.getfield 21, 3) := by decide +kernel
theorem dX5_removeFromRow_33 : decode cX5_removeFromRow 33 = .ok (.iload_n 3, 1) := by decide +kernel
theorem dX5_removeFromRow_34 : decode cX5_removeFromRow 34 = .ok (.iload 4, 2) := by decide +kernel
theorem dX5_removeFromRow_36 : decode cX5_removeFromRow 36 = .ok (.iadd, 1) := by decide +kernel
theorem dX5_removeFromRow_37 : decode cX5_removeFromRow 37 = .ok (.iaload, 1) := by decide +kernel
theorem dX5_removeFromRow_38 : decode cX5_removeFromRow 38 = .ok (.iastore, 1) := by decide +kernel
theorem dX5_removeFromRow_39 : decode cX5_removeFromRow 39 = .ok (.iinc 4 1, 3) := by decide +kernel
theorem dX5_removeFromRow_42 : decode cX5_removeFromRow 42 = .ok (.goto (-29), 3) := by decide +kernel
theorem dX5_removeFromRow_45 : decode cX5_removeFromRow 45 = .ok (.aload_n 0, 1) := by decide +kernel
theorem dX5_removeFromRow_46 : decode cX5_removeFromRow 46 = .ok (.getfield 18, 3) := by decide +kernel
theorem dX5_removeFromRow_49 : decode cX5_removeFromRow 49 = .ok (.iload_n 1, 1) := by decide +kernel
theorem dX5_removeFromRow_50 : decode cX5_removeFromRow 50 = .ok (.dup2, 1) := by decide +kernel
theorem dX5_removeFromRow_51 : decode cX5_removeFromRow 51 = .ok (.iaload, 1) := by decide +kernel
theorem dX5_removeFromRow_52 : decode cX5_removeFromRow 52 = .ok (.iconst 1, 1) := by decide +kernel
theorem dX5_removeFromRow_53 : decode cX5_removeFromRow 53 = .ok (.isub, 1) := by decide +kernel
theorem dX5_removeFromRow_54 : decode cX5_removeFromRow 54 = .ok (.iastore, 1) := by decide +kernel
theorem dX5_removeFromRow_55 : decode cX5_removeFromRow 55 = .ok (.aload_n 0, 1) := by decide +kernel
theorem dX5_removeFromRow_56 : decode cX5_removeFromRow 56 = .ok (.getfield 18, 3) := by decide +kernel
theorem dX5_removeFromRow_59 : decode cX5_removeFromRow 59 = .ok (.iload_n 1, 1) := by decide +kernel
theorem dX5_removeFromRow_60 : decode cX5_removeFromRow 60 = .ok (.iaload, 1) := by decide +kernel
theorem dX5_removeFromRow_61 : decode cX5_removeFromRow 61 = .ok (.ireturn, 1) := by decide +kernel
set_option maxRecDepth 20000 in
theorem ggX5_floorsOf_X5_placeOf : GoodIn wsX5_floorsOf wsX5_placeOf := goodIn_r _ [5, 6, 7, 8, 4, 9, 10, 11, 12, 13, 14, 15, 16, 17, 18, 19] (by decide +kernel) (by decide +kernel)
set_option maxRecDepth 20000 in
theorem gX5_floorsOf_X5_placeOf : GoodIn wsX5_floorsOf (wsV RX5 69 RX5 yX5_placeOf wsX5_placeOf) := goodIn_app (goodIn_of _ (by decide +kernel)) ggX5_floorsOf_X5_placeOf
theorem dX5_floorsOf_0 : decode cX5_floorsOf 0 = .ok (.iconst 0, 1) := by decide +kernel
theorem dX5_floorsOf_1 : decode cX5_floorsOf 1 = .ok (.istore_n 2, 1) := by decide +kernel
theorem dX5_floorsOf_2 : decode cX5_floorsOf 2 = .ok (.iconst 0, 1) := by decide +kernel
theorem dX5_floorsOf_3 : decode cX5_floorsOf 3 = .ok (.istore_n 3, 1) := by decide +kernel
theorem dX5_floorsOf_4 : decode cX5_floorsOf 4 = .ok (.iload_n 3, 1) := by decide +kernel
theorem dX5_floorsOf_5 : decode cX5_floorsOf 5 = .ok (.bipush 10, 2) := by decide +kernel
theorem dX5_floorsOf_7 : decode cX5_floorsOf 7 = .ok (.if_icmp .ge 26, 3) := by decide +kernel
theorem dX5_floorsOf_10 : decode cX5_floorsOf 10 = .ok (.aload_n 0, 1) := by decide +kernel
theorem dX5_floorsOf_11 : decode cX5_floorsOf 11 = .ok (.iload_n 3, 1) := by decide +kernel
theorem dX5_floorsOf_12 : decode cX5_floorsOf 12 = .ok (.iload_n 1, 1) := by decide +kernel
theorem dX5_floorsOf_13 : decode cX5_floorsOf 13 = .ok (.invokevirtual 69, 3) := by decide +kernel
theorem dX5_floorsOf_16 : decode cX5_floorsOf 16 = .ok (.bipush (-5), 2) := by decide +kernel
theorem dX5_floorsOf_18 : decode cX5_floorsOf 18 = .ok (.if_icmp .eq 9, 3) := by decide +kernel
theorem dX5_floorsOf_21 : decode cX5_floorsOf 21 = .ok (.iload_n 2, 1) := by decide +kernel
theorem dX5_floorsOf_22 : decode cX5_floorsOf 22 = .ok (.iconst 1, 1) := by decide +kernel
theorem dX5_floorsOf_23 : decode cX5_floorsOf 23 = .ok (.iload_n 3, 1) := by decide +kernel
theorem dX5_floorsOf_24 : decode cX5_floorsOf 24 = .ok (.ishl, 1) := by decide +kernel
theorem dX5_floorsOf_25 : decode cX5_floorsOf 25 = .ok (.ior, 1) := by decide +kernel
theorem dX5_floorsOf_26 : decode cX5_floorsOf 26 = .ok (.istore_n 2, 1) := by decide +kernel
theorem dX5_floorsOf_27 : decode cX5_floorsOf 27 = .ok (.iinc 3 1, 3) := by decide +kernel
theorem dX5_floorsOf_30 : decode cX5_floorsOf 30 = .ok (.goto (-26), 3) := by decide +kernel
theorem dX5_floorsOf_33 : decode cX5_floorsOf 33 = .ok (.iload_n 2, 1) := by decide +kernel
theorem dX5_floorsOf_34 : decode cX5_floorsOf 34 = .ok (.ireturn, 1) := by decide +kernel
set_option maxRecDepth 20000 in
theorem ggX5_ableOn_X2_awayOn : GoodIn wsX5_ableOn wsX2_awayOn := goodIn_r _ [7, 8, 9, 10, 11, 20, 21, 22, 23] (by decide +kernel) (by decide +kernel)
set_option maxRecDepth 20000 in
theorem gX5_ableOn_X2_awayOn : GoodIn wsX5_ableOn (wsV RX5 72 RX2 yX2_awayOn wsX2_awayOn) := goodIn_app (goodIn_of _ (by decide +kernel)) ggX5_ableOn_X2_awayOn
theorem dX5_ableOn_0 : decode cX5_ableOn 0 = .ok (.iconst 0, 1) := by decide +kernel
theorem dX5_ableOn_1 : decode cX5_ableOn 1 = .ok (.istore_n 2, 1) := by decide +kernel
theorem dX5_ableOn_2 : decode cX5_ableOn 2 = .ok (.iconst 0, 1) := by decide +kernel
theorem dX5_ableOn_3 : decode cX5_ableOn 3 = .ok (.istore_n 3, 1) := by decide +kernel
theorem dX5_ableOn_4 : decode cX5_ableOn 4 = .ok (.iload_n 3, 1) := by decide +kernel
theorem dX5_ableOn_5 : decode cX5_ableOn 5 = .ok (.bipush 16, 2) := by decide +kernel
theorem dX5_ableOn_7 : decode cX5_ableOn 7 = .ok (.if_icmp .ge 25, 3) := by decide +kernel
theorem dX5_ableOn_10 : decode cX5_ableOn 10 = .ok (.iload_n 1, 1) := by decide +kernel
theorem dX5_ableOn_11 : decode cX5_ableOn 11 = .ok (.aload_n 0, 1) := by decide +kernel
theorem dX5_ableOn_12 : decode cX5_ableOn 12 = .ok (.getfield 24, 3) := by decide +kernel
theorem dX5_ableOn_15 : decode cX5_ableOn 15 = .ok (.iload_n 3, 1) := by decide +kernel
theorem dX5_ableOn_16 : decode cX5_ableOn 16 = .ok (.iaload, 1) := by decide +kernel
theorem dX5_ableOn_17 : decode cX5_ableOn 17 = .ok (.if_icmp .gt 9, 3) := by decide +kernel
theorem dX5_ableOn_20 : decode cX5_ableOn 20 = .ok (.iload_n 2, 1) := by decide +kernel
theorem dX5_ableOn_21 : decode cX5_ableOn 21 = .ok (.iconst 1, 1) := by decide +kernel
theorem dX5_ableOn_22 : decode cX5_ableOn 22 = .ok (.iload_n 3, 1) := by decide +kernel
theorem dX5_ableOn_23 : decode cX5_ableOn 23 = .ok (.ishl, 1) := by decide +kernel
theorem dX5_ableOn_24 : decode cX5_ableOn 24 = .ok (.ior, 1) := by decide +kernel
theorem dX5_ableOn_25 : decode cX5_ableOn 25 = .ok (.istore_n 2, 1) := by decide +kernel
theorem dX5_ableOn_26 : decode cX5_ableOn 26 = .ok (.iinc 3 1, 3) := by decide +kernel
theorem dX5_ableOn_29 : decode cX5_ableOn 29 = .ok (.goto (-25), 3) := by decide +kernel
theorem dX5_ableOn_32 : decode cX5_ableOn 32 = .ok (.iload_n 2, 1) := by decide +kernel
theorem dX5_ableOn_33 : decode cX5_ableOn 33 = .ok (.aload_n 0, 1) := by decide +kernel
theorem dX5_ableOn_34 : decode cX5_ableOn 34 = .ok (.getfield 30, 3) := by decide +kernel
theorem dX5_ableOn_37 : decode cX5_ableOn 37 = .ok (.iload_n 1, 1) := by decide +kernel
theorem dX5_ableOn_38 : decode cX5_ableOn 38 = .ok (.invokevirtual 72, 3) := by decide +kernel
theorem dX5_ableOn_41 : decode cX5_ableOn 41 = .ok (.iconst (-1), 1) := by decide +kernel
theorem dX5_ableOn_42 : decode cX5_ableOn 42 = .ok (.ixor, 1) := by decide +kernel
theorem dX5_ableOn_43 : decode cX5_ableOn 43 = .ok (.iand, 1) := by decide +kernel
theorem dX5_ableOn_44 : decode cX5_ableOn 44 = .ok (.ireturn, 1) := by decide +kernel
set_option maxRecDepth 20000 in
theorem ggX5_floorsDueIn_X6_isIn : GoodIn wsX5_floorsDueIn wsX6_isIn := goodIn_r _ [5] (by decide +kernel) (by decide +kernel)
set_option maxRecDepth 20000 in
theorem gX5_floorsDueIn_X6_isIn_n79 : GoodIn wsX5_floorsDueIn (wsX6_isIn) := ggX5_floorsDueIn_X6_isIn
theorem dX5_floorsDueIn_0 : decode cX5_floorsDueIn 0 = .ok (.iconst 0, 1) := by decide +kernel
theorem dX5_floorsDueIn_1 : decode cX5_floorsDueIn 1 = .ok (.istore_n 2, 1) := by decide +kernel
theorem dX5_floorsDueIn_2 : decode cX5_floorsDueIn 2 = .ok (.iconst 0, 1) := by decide +kernel
theorem dX5_floorsDueIn_3 : decode cX5_floorsDueIn 3 = .ok (.istore_n 3, 1) := by decide +kernel
theorem dX5_floorsDueIn_4 : decode cX5_floorsDueIn 4 = .ok (.iload_n 3, 1) := by decide +kernel
theorem dX5_floorsDueIn_5 : decode cX5_floorsDueIn 5 = .ok (.bipush 10, 2) := by decide +kernel
theorem dX5_floorsDueIn_7 : decode cX5_floorsDueIn 7 = .ok (.if_icmp .ge 40, 3) := by decide +kernel
theorem dX5_floorsDueIn_10 : decode cX5_floorsDueIn 10 = .ok (.aload_n 0, 1) := by decide +kernel
theorem dX5_floorsDueIn_11 : decode cX5_floorsDueIn 11 = .ok (.getfield 15, 3) := by decide +kernel
theorem dX5_floorsDueIn_14 : decode cX5_floorsDueIn 14 = .ok (.iload_n 3, 1) := by decide +kernel
theorem dX5_floorsDueIn_15 : decode cX5_floorsDueIn 15 = .ok (.iaload, 1) := by decide +kernel
theorem dX5_floorsDueIn_16 : decode cX5_floorsDueIn 16 = .ok (.ifCond .le 25, 3) := by decide +kernel
theorem dX5_floorsDueIn_19 : decode cX5_floorsDueIn 19 = .ok (.aload_n 0, 1) := by decide +kernel
theorem dX5_floorsDueIn_20 : decode cX5_floorsDueIn 20 = .ok (.getfield 37, 3) := by decide +kernel
theorem dX5_floorsDueIn_23 : decode cX5_floorsDueIn 23 = .ok (.getfield 76, 3) := by decide +kernel
theorem dX5_floorsDueIn_26 : decode cX5_floorsDueIn 26 = .ok (.iload_n 3, 1) := by decide +kernel
theorem dX5_floorsDueIn_27 : decode cX5_floorsDueIn 27 = .ok (.iaload, 1) := by decide +kernel
theorem dX5_floorsDueIn_28 : decode cX5_floorsDueIn 28 = .ok (.iload_n 1, 1) := by decide +kernel
theorem dX5_floorsDueIn_29 : decode cX5_floorsDueIn 29 = .ok (.invokestatic 79, 3) := by decide +kernel
theorem dX5_floorsDueIn_32 : decode cX5_floorsDueIn 32 = .ok (.ifCond .ne 9, 3) := by decide +kernel
theorem dX5_floorsDueIn_35 : decode cX5_floorsDueIn 35 = .ok (.iload_n 2, 1) := by decide +kernel
theorem dX5_floorsDueIn_36 : decode cX5_floorsDueIn 36 = .ok (.iconst 1, 1) := by decide +kernel
theorem dX5_floorsDueIn_37 : decode cX5_floorsDueIn 37 = .ok (.iload_n 3, 1) := by decide +kernel
theorem dX5_floorsDueIn_38 : decode cX5_floorsDueIn 38 = .ok (.ishl, 1) := by decide +kernel
theorem dX5_floorsDueIn_39 : decode cX5_floorsDueIn 39 = .ok (.ior, 1) := by decide +kernel
theorem dX5_floorsDueIn_40 : decode cX5_floorsDueIn 40 = .ok (.istore_n 2, 1) := by decide +kernel
theorem dX5_floorsDueIn_41 : decode cX5_floorsDueIn 41 = .ok (.iinc 3 1, 3) := by decide +kernel
theorem dX5_floorsDueIn_44 : decode cX5_floorsDueIn 44 = .ok (.goto (-40), 3) := by decide +kernel
theorem dX5_floorsDueIn_47 : decode cX5_floorsDueIn 47 = .ok (.iload_n 2, 1) := by decide +kernel
theorem dX5_floorsDueIn_48 : decode cX5_floorsDueIn 48 = .ok (.ireturn, 1) := by decide +kernel
set_option maxRecDepth 20000 in
theorem ggX6_init_X5_init : GoodIn wsX6_init wsX5_init := goodIn_r _ [26, 27, 2, 3, 28, 29, 30, 31, 32, 33, 34, 35, 36, 37, 38, 39, 40, 41, 42, 43, 44, 45, 46, 47, 48, 49, 50, 51, 52, 53, 54, 55, 56, 57, 58, 84, 85, 86, 87, 88, 89, 90, 91, 116, 117, 118, 119, 120, 121, 122, 123, 124, 125, 126] (by decide +kernel) (by decide +kernel)
set_option maxRecDepth 20000 in
theorem gX6_init_X5_init : GoodIn wsX6_init (wsX5_init) := ggX6_init_X5_init
set_option maxRecDepth 20000 in
theorem ggX6_init_X1_init : GoodIn wsX6_init wsX1_init := goodIn_r _ [61, 62, 2, 3, 63, 64, 5, 6, 65, 66, 25, 26, 27, 28, 29, 30, 31, 32, 33, 34, 35, 36, 37, 38, 39, 40, 41, 42, 43, 44, 45, 46, 47, 48, 49, 50, 51, 52, 53, 54, 55, 56, 57, 58, 100, 101, 102, 103, 84, 85, 86, 87, 88, 89, 90, 91, 116, 117, 118, 119, 120, 121, 122, 123, 124, 125, 126] (by decide +kernel) (by decide +kernel)
set_option maxRecDepth 20000 in
theorem gX6_init_X1_init : GoodIn wsX6_init (wsX1_init) := ggX6_init_X1_init
set_option maxRecDepth 20000 in
theorem ggX6_init_X3_init : GoodIn wsX6_init wsX3_init := goodIn_r _ [69, 70, 2, 3, 71, 72, 28, 73, 74, 104, 105, 106, 107, 108, 109] (by decide +kernel) (by decide +kernel)
set_option maxRecDepth 20000 in
theorem gX6_init_X3_init : GoodIn wsX6_init (wsX3_init) := ggX6_init_X3_init
set_option maxRecDepth 20000 in
theorem ggX6_init_X4_init : GoodIn wsX6_init wsX4_init := goodIn_r _ [77, 78, 2, 3, 28, 79, 80, 81, 82, 83, 110, 111, 112, 113, 114, 115] (by decide +kernel) (by decide +kernel)
set_option maxRecDepth 20000 in
theorem gX6_init_X4_init : GoodIn wsX6_init (wsX4_init) := ggX6_init_X4_init
theorem dX6_init_0 : decode cX6_init 0 = .ok (.aload_n 0, 1) := by decide +kernel
theorem dX6_init_1 : decode cX6_init 1 = .ok (.invokespecial 1, 3) := by decide +kernel
theorem dX6_init_4 : decode cX6_init 4 = .ok (.aload_n 0, 1) := by decide +kernel
theorem dX6_init_5 : decode cX6_init 5 = .ok (.new 7, 3) := by decide +kernel
theorem dX6_init_8 : decode cX6_init 8 = .ok (.dup, 1) := by decide +kernel
theorem dX6_init_9 : decode cX6_init 9 = .ok (.invokespecial 9, 3) := by decide +kernel
theorem dX6_init_12 : decode cX6_init 12 = .ok (.putfield 10, 3) := by decide +kernel
theorem dX6_init_15 : decode cX6_init 15 = .ok (.aload_n 0, 1) := by decide +kernel
theorem dX6_init_16 : decode cX6_init 16 = .ok (.new 7, 3) := by decide +kernel
theorem dX6_init_19 : decode cX6_init 19 = .ok (.dup, 1) := by decide +kernel
theorem dX6_init_20 : decode cX6_init 20 = .ok (.invokespecial 9, 3) := by decide +kernel
theorem dX6_init_23 : decode cX6_init 23 = .ok (.putfield 16, 3) := by decide +kernel
theorem dX6_init_26 : decode cX6_init 26 = .ok (.aload_n 0, 1) := by decide +kernel
theorem dX6_init_27 : decode cX6_init 27 = .ok (.new 19, 3) := by decide +kernel
theorem dX6_init_30 : decode cX6_init 30 = .ok (.dup, 1) := by decide +kernel
theorem dX6_init_31 : decode cX6_init 31 = .ok (.invokespecial 21, 3) := by decide +kernel
theorem dX6_init_34 : decode cX6_init 34 = .ok (.putfield 22, 3) := by decide +kernel
theorem dX6_init_37 : decode cX6_init 37 = .ok (.aload_n 0, 1) := by decide +kernel
theorem dX6_init_38 : decode cX6_init 38 = .ok (.new 26, 3) := by decide +kernel
theorem dX6_init_41 : decode cX6_init 41 = .ok (.dup, 1) := by decide +kernel
theorem dX6_init_42 : decode cX6_init 42 = .ok (.invokespecial 28, 3) := by decide +kernel
theorem dX6_init_45 : decode cX6_init 45 = .ok (.putfield 29, 3) := by decide +kernel
theorem dX6_init_48 : decode cX6_init 48 = .ok (.aload_n 0, 1) := by decide +kernel
theorem dX6_init_49 : decode cX6_init 49 = .ok (.new 33, 3) := by decide +kernel
theorem dX6_init_52 : decode cX6_init 52 = .ok (.dup, 1) := by decide +kernel
theorem dX6_init_53 : decode cX6_init 53 = .ok (.invokespecial 35, 3) := by decide +kernel
theorem dX6_init_56 : decode cX6_init 56 = .ok (.putfield 36, 3) := by decide +kernel
theorem dX6_init_59 : decode cX6_init 59 = .ok (.aload_n 0, 1) := by decide +kernel
theorem dX6_init_60 : decode cX6_init 60 = .ok (.new 33, 3) := by decide +kernel
theorem dX6_init_63 : decode cX6_init 63 = .ok (.dup, 1) := by decide +kernel
theorem dX6_init_64 : decode cX6_init 64 = .ok (.invokespecial 35, 3) := by decide +kernel
theorem dX6_init_67 : decode cX6_init 67 = .ok (.putfield 40, 3) := by decide +kernel
theorem dX6_init_70 : decode cX6_init 70 = .ok (.aload_n 0, 1) := by decide +kernel
theorem dX6_init_71 : decode cX6_init 71 = .ok (.bipush (-5), 2) := by decide +kernel
theorem dX6_init_73 : decode cX6_init 73 = .ok (.putfield 43, 3) := by decide +kernel
theorem dX6_init_76 : decode cX6_init 76 = .ok (.aload_n 0, 1) := by decide +kernel
theorem dX6_init_77 : decode cX6_init 77 = .ok (.bipush (-5), 2) := by decide +kernel
theorem dX6_init_79 : decode cX6_init 79 = .ok (.putfield 47, 3) := by decide +kernel
theorem dX6_init_82 : decode cX6_init 82 = .ok (.return_, 1) := by decide +kernel
set_option maxRecDepth 20000 in
theorem ggX6_enlist_X5_copyFrom : GoodIn wsX6_enlist wsX5_copyFrom := goodIn_r _ [7, 8, 9, 10, 11, 12, 13, 14, 15, 16, 17, 18, 19, 20, 21, 22, 23, 24, 25, 26, 27, 28, 29, 30, 31, 32, 33, 34, 35, 36, 37, 38, 39, 40, 41, 42, 43, 93, 94, 95, 96, 97, 98, 99, 100, 101, 102, 103, 104, 105, 106, 107, 108, 109, 110, 111] (by decide +kernel) (by decide +kernel)
set_option maxRecDepth 20000 in
theorem gX6_enlist_X5_copyFrom : GoodIn wsX6_enlist (wsV RX6 50 RX5 yX5_copyFrom wsX5_copyFrom) := goodIn_app (goodIn_of _ (by decide +kernel)) ggX6_enlist_X5_copyFrom
set_option maxRecDepth 20000 in
theorem ggX6_enlist_X6_enterRow : GoodIn wsX6_enlist wsX6_enterRow := goodIn_r _ [47, 2, 48, 49, 17, 50, 51, 52, 53, 54, 55, 56, 6, 57, 58, 59, 60, 61, 11, 12, 62, 63, 64, 65, 66, 67, 85, 86, 87, 88, 89, 90, 91, 92, 93, 94, 95, 96, 97, 98, 99, 100] (by decide +kernel) (by decide +kernel)
set_option maxRecDepth 20000 in
theorem gX6_enlist_X6_enterRow : GoodIn wsX6_enlist (wsV RX6 54 RX6 yX6_enterRow wsX6_enterRow) := goodIn_app (goodIn_of _ (by decide +kernel)) ggX6_enlist_X6_enterRow
set_option maxRecDepth 20000 in
theorem ggX6_enlist_X6_recorded : GoodIn wsX6_enlist wsX6_recorded := goodIn_r _ [71, 72, 1, 73, 74, 75, 76, 77, 78, 79, 80, 81, 82, 83, 66, 17, 67, 84, 4, 5, 6, 7, 8, 9, 10, 11, 12, 13, 14, 15, 16, 18, 19, 20, 21, 22, 23, 24, 25, 26, 27, 28, 29, 30, 31, 32, 33, 34, 35, 36, 37, 38, 39, 40, 41, 42, 43, 85, 86, 87, 88, 89, 90, 91, 92, 112, 113, 114, 115, 93, 94, 95, 96, 97, 98, 99, 100, 101, 102, 103, 104, 105, 106, 107, 108, 109, 110, 111] (by decide +kernel) (by decide +kernel)
set_option maxRecDepth 20000 in
theorem gX6_enlist_X6_recorded : GoodIn wsX6_enlist (wsV RX6 58 RX6 yX6_recorded wsX6_recorded) := goodIn_app (goodIn_of _ (by decide +kernel)) ggX6_enlist_X6_recorded
theorem dX6_enlist_0 : decode cX6_enlist 0 = .ok (.aload_n 0, 1) := by decide +kernel
theorem dX6_enlist_1 : decode cX6_enlist 1 = .ok (.getfield 16, 3) := by decide +kernel
theorem dX6_enlist_4 : decode cX6_enlist 4 = .ok (.aload_n 0, 1) := by decide +kernel
theorem dX6_enlist_5 : decode cX6_enlist 5 = .ok (.getfield 10, 3) := by decide +kernel
theorem dX6_enlist_8 : decode cX6_enlist 8 = .ok (.invokevirtual 50, 3) := by decide +kernel
theorem dX6_enlist_11 : decode cX6_enlist 11 = .ok (.aload_n 0, 1) := by decide +kernel
theorem dX6_enlist_12 : decode cX6_enlist 12 = .ok (.aload_n 0, 1) := by decide +kernel
theorem dX6_enlist_13 : decode cX6_enlist 13 = .ok (.iload_n 1, 1) := by decide +kernel
theorem dX6_enlist_14 : decode cX6_enlist 14 = .ok (.iload_n 2, 1) := by decide +kernel
theorem dX6_enlist_15 : decode cX6_enlist 15 = .ok (.invokevirtual 54, 3) := by decide +kernel
theorem dX6_enlist_18 : decode cX6_enlist 18 = .ok (.invokevirtual 58, 3) := by decide +kernel
theorem dX6_enlist_21 : decode cX6_enlist 21 = .ok (.ireturn, 1) := by decide +kernel
set_option maxRecDepth 20000 in
theorem ggX6_strike_X5_copyFrom : GoodIn wsX6_strike wsX5_copyFrom := goodIn_r _ [7, 8, 9, 10, 11, 12, 13, 14, 15, 16, 17, 18, 19, 20, 21, 22, 23, 24, 25, 26, 27, 28, 29, 30, 31, 32, 33, 34, 35, 36, 37, 38, 39, 40, 41, 42, 43, 97, 98, 99, 100, 101, 102, 103, 104, 105, 106, 107, 108, 109, 110, 111, 112, 113, 114, 115] (by decide +kernel) (by decide +kernel)
set_option maxRecDepth 20000 in
theorem gX6_strike_X5_copyFrom : GoodIn wsX6_strike (wsV RX6 50 RX5 yX5_copyFrom wsX5_copyFrom) := goodIn_app (goodIn_of _ (by decide +kernel)) ggX6_strike_X5_copyFrom
set_option maxRecDepth 20000 in
theorem ggX6_strike_X6_quitRow : GoodIn wsX6_strike wsX6_quitRow := goodIn_r _ [47, 2, 48, 49, 17, 50, 51, 52, 53, 54, 55, 56, 6, 57, 58, 59, 60, 61, 11, 12, 62, 63, 64, 65, 66, 67, 68, 69, 89, 90, 91, 92, 93, 94, 95, 96, 97, 98, 99, 100, 101, 102, 103, 104] (by decide +kernel) (by decide +kernel)
set_option maxRecDepth 20000 in
theorem gX6_strike_X6_quitRow : GoodIn wsX6_strike (wsV RX6 62 RX6 yX6_quitRow wsX6_quitRow) := goodIn_app (goodIn_of _ (by decide +kernel)) ggX6_strike_X6_quitRow
set_option maxRecDepth 20000 in
theorem ggX6_strike_X6_recorded : GoodIn wsX6_strike wsX6_recorded := goodIn_r _ [73, 74, 1, 75, 76, 77, 78, 79, 80, 81, 82, 83, 84, 85, 86, 17, 87, 88, 4, 5, 6, 7, 8, 9, 10, 11, 12, 13, 14, 15, 16, 18, 19, 20, 21, 22, 23, 24, 25, 26, 27, 28, 29, 30, 31, 32, 33, 34, 35, 36, 37, 38, 39, 40, 41, 42, 43, 89, 90, 91, 92, 93, 94, 95, 96, 116, 117, 118, 119, 97, 98, 99, 100, 101, 102, 103, 104, 105, 106, 107, 108, 109, 110, 111, 112, 113, 114, 115] (by decide +kernel) (by decide +kernel)
set_option maxRecDepth 20000 in
theorem gX6_strike_X6_recorded : GoodIn wsX6_strike (wsV RX6 58 RX6 yX6_recorded wsX6_recorded) := goodIn_app (goodIn_of _ (by decide +kernel)) ggX6_strike_X6_recorded
theorem dX6_strike_0 : decode cX6_strike 0 = .ok (.aload_n 0, 1) := by decide +kernel
theorem dX6_strike_1 : decode cX6_strike 1 = .ok (.getfield 16, 3) := by decide +kernel
theorem dX6_strike_4 : decode cX6_strike 4 = .ok (.aload_n 0, 1) := by decide +kernel
theorem dX6_strike_5 : decode cX6_strike 5 = .ok (.getfield 10, 3) := by decide +kernel
theorem dX6_strike_8 : decode cX6_strike 8 = .ok (.invokevirtual 50, 3) := by decide +kernel
theorem dX6_strike_11 : decode cX6_strike 11 = .ok (.aload_n 0, 1) := by decide +kernel
theorem dX6_strike_12 : decode cX6_strike 12 = .ok (.aload_n 0, 1) := by decide +kernel
theorem dX6_strike_13 : decode cX6_strike 13 = .ok (.iload_n 1, 1) := by decide +kernel
theorem dX6_strike_14 : decode cX6_strike 14 = .ok (.iload_n 2, 1) := by decide +kernel
theorem dX6_strike_15 : decode cX6_strike 15 = .ok (.invokevirtual 62, 3) := by decide +kernel
theorem dX6_strike_18 : decode cX6_strike 18 = .ok (.invokevirtual 58, 3) := by decide +kernel
theorem dX6_strike_21 : decode cX6_strike 21 = .ok (.ireturn, 1) := by decide +kernel
set_option maxRecDepth 20000 in
theorem ggX6_setNeed_X6_isFloor : GoodIn wsX6_setNeed wsX6_isFloor := goodIn_r _ [6] (by decide +kernel) (by decide +kernel)
set_option maxRecDepth 20000 in
theorem gX6_setNeed_X6_isFloor : GoodIn wsX6_setNeed (va_wsS RX6 65 yX6_isFloor wsX6_isFloor) := goodIn_app (goodIn_of _ (by decide +kernel)) ggX6_setNeed_X6_isFloor
set_option maxRecDepth 20000 in
theorem ggX6_setNeed_X6_isWithin : GoodIn wsX6_setNeed wsX6_isWithin := goodIn_r _ [9] (by decide +kernel) (by decide +kernel)
set_option maxRecDepth 20000 in
theorem gX6_setNeed_X6_isWithin : GoodIn wsX6_setNeed (va_wsS RX6 69 yX6_isWithin wsX6_isWithin) := goodIn_app (goodIn_of _ (by decide +kernel)) ggX6_setNeed_X6_isWithin
set_option maxRecDepth 20000 in
theorem ggX6_setNeed_X1_push : GoodIn wsX6_setNeed wsX1_push := goodIn_r _ [14, 15, 16, 17, 18, 19, 13, 20, 8, 5, 9, 21, 22, 23, 24, 25, 26, 27, 28, 29, 30, 31, 32, 33, 34, 35, 36, 37, 38, 39, 40, 41, 42, 43, 44, 45, 46, 47, 48, 49, 50, 51, 52, 53, 54, 55, 56, 57, 58, 59, 60, 77, 78, 79, 80, 69, 70, 71, 72, 73, 74, 75, 76, 81, 82, 83, 84, 85, 86, 87, 88, 89, 90, 91] (by decide +kernel) (by decide +kernel)
set_option maxRecDepth 20000 in
theorem gX6_setNeed_X1_push : GoodIn wsX6_setNeed (wsV RX6 77 RX1 yX1_push wsX1_push) := goodIn_app (goodIn_of _ (by decide +kernel)) ggX6_setNeed_X1_push
theorem dX6_setNeed_0 : decode cX6_setNeed 0 = .ok (.iload_n 1, 1) := by decide +kernel
theorem dX6_setNeed_1 : decode cX6_setNeed 1 = .ok (.invokestatic 65, 3) := by decide +kernel
theorem dX6_setNeed_4 : decode cX6_setNeed 4 = .ok (.ifCond .ne 5, 3) := by decide +kernel
theorem dX6_setNeed_7 : decode cX6_setNeed 7 = .ok (.iconst (-1), 1) := by decide +kernel
theorem dX6_setNeed_8 : decode cX6_setNeed 8 = .ok (.ireturn, 1) := by decide +kernel
theorem dX6_setNeed_9 : decode cX6_setNeed 9 = .ok (.iload_n 2, 1) := by decide +kernel
theorem dX6_setNeed_10 : decode cX6_setNeed 10 = .ok (.iconst 0, 1) := by decide +kernel
theorem dX6_setNeed_11 : decode cX6_setNeed 11 = .ok (.iconst 3, 1) := by decide +kernel
theorem dX6_setNeed_12 : decode cX6_setNeed 12 = .ok (.invokestatic 69, 3) := by decide +kernel
theorem dX6_setNeed_15 : decode cX6_setNeed 15 = .ok (.ifCond .ne 6, 3) := by decide +kernel
theorem dX6_setNeed_18 : decode cX6_setNeed 18 = .ok (.bipush (-2), 2) := by decide +kernel
theorem dX6_setNeed_20 : decode cX6_setNeed 20 = .ok (.ireturn, 1) := by decide +kernel
theorem dX6_setNeed_21 : decode cX6_setNeed 21 = .ok (.aload_n 0, 1) := by decide +kernel
theorem dX6_setNeed_22 : decode cX6_setNeed 22 = .ok (.getfield 10, 3) := by decide +kernel
theorem dX6_setNeed_25 : decode cX6_setNeed 25 = .ok (.getfield 73, 3) := by decide +kernel
theorem dX6_setNeed_28 : decode cX6_setNeed 28 = .ok (.iload_n 1, 1) := by decide +kernel
theorem dX6_setNeed_29 : decode cX6_setNeed 29 = .ok (.iaload, 1) := by decide +kernel
theorem dX6_setNeed_30 : decode cX6_setNeed 30 = .ok (.istore_n 3, 1) := by decide +kernel
theorem dX6_setNeed_31 : decode cX6_setNeed 31 = .ok (.iload_n 3, 1) := by decide +kernel
theorem dX6_setNeed_32 : decode cX6_setNeed 32 = .ok (.iload_n 2, 1) := by decide +kernel
theorem dX6_setNeed_33 : decode cX6_setNeed 33 = .ok (.if_icmp .ne 6, 3) := by decide +kernel
theorem dX6_setNeed_36 : decode cX6_setNeed 36 = .ok (.bipush (-5), 2) := by decide +kernel
theorem dX6_setNeed_38 : decode cX6_setNeed 38 = .ok (.ireturn, 1) := by decide +kernel
theorem dX6_setNeed_39 : decode cX6_setNeed 39 = .ok (.aload_n 0, 1) := by decide +kernel
theorem dX6_setNeed_40 : decode cX6_setNeed 40 = .ok (.getfield 22, 3) := by decide +kernel
theorem dX6_setNeed_43 : decode cX6_setNeed 43 = .ok (.aload_n 0, 1) := by decide +kernel
theorem dX6_setNeed_44 : decode cX6_setNeed 44 = .ok (.getfield 10, 3) := by decide +kernel
theorem dX6_setNeed_47 : decode cX6_setNeed 47 = .ok (.invokevirtual 77, 3) := by decide +kernel
theorem dX6_setNeed_50 : decode cX6_setNeed 50 = .ok (.aload_n 0, 1) := by decide +kernel
theorem dX6_setNeed_51 : decode cX6_setNeed 51 = .ok (.getfield 10, 3) := by decide +kernel
theorem dX6_setNeed_54 : decode cX6_setNeed 54 = .ok (.getfield 73, 3) := by decide +kernel
theorem dX6_setNeed_57 : decode cX6_setNeed 57 = .ok (.iload_n 1, 1) := by decide +kernel
theorem dX6_setNeed_58 : decode cX6_setNeed 58 = .ok (.iload_n 2, 1) := by decide +kernel
theorem dX6_setNeed_59 : decode cX6_setNeed 59 = .ok (.iastore, 1) := by decide +kernel
theorem dX6_setNeed_60 : decode cX6_setNeed 60 = .ok (.iload_n 3, 1) := by decide +kernel
theorem dX6_setNeed_61 : decode cX6_setNeed 61 = .ok (.ireturn, 1) := by decide +kernel
set_option maxRecDepth 20000 in
theorem ggX6_train_X6_isPerson : GoodIn wsX6_train wsX6_isPerson := goodIn_r _ [6] (by decide +kernel) (by decide +kernel)
set_option maxRecDepth 20000 in
theorem gX6_train_X6_isPerson : GoodIn wsX6_train (va_wsS RX6 80 yX6_isPerson wsX6_isPerson) := goodIn_app (goodIn_of _ (by decide +kernel)) ggX6_train_X6_isPerson
set_option maxRecDepth 20000 in
theorem ggX6_train_X6_isDay : GoodIn wsX6_train wsX6_isDay := goodIn_r _ [9] (by decide +kernel) (by decide +kernel)
set_option maxRecDepth 20000 in
theorem gX6_train_X6_isDay : GoodIn wsX6_train (va_wsS RX6 83 yX6_isDay wsX6_isDay) := goodIn_app (goodIn_of _ (by decide +kernel)) ggX6_train_X6_isDay
set_option maxRecDepth 20000 in
theorem ggX6_train_X1_push : GoodIn wsX6_train wsX1_push := goodIn_r _ [14, 15, 16, 17, 18, 19, 13, 20, 21, 5, 22, 23, 24, 25, 26, 27, 28, 29, 30, 31, 32, 33, 34, 35, 36, 37, 38, 39, 40, 41, 42, 43, 44, 45, 46, 47, 48, 49, 50, 51, 52, 53, 54, 55, 56, 57, 58, 59, 60, 61, 62, 79, 80, 81, 82, 71, 72, 73, 74, 75, 76, 77, 78, 83, 84, 85, 86, 87, 88, 89, 90, 91, 92, 93] (by decide +kernel) (by decide +kernel)
set_option maxRecDepth 20000 in
theorem gX6_train_X1_push : GoodIn wsX6_train (wsV RX6 77 RX1 yX1_push wsX1_push) := goodIn_app (goodIn_of _ (by decide +kernel)) ggX6_train_X1_push
theorem dX6_train_0 : decode cX6_train 0 = .ok (.iload_n 1, 1) := by decide +kernel
theorem dX6_train_1 : decode cX6_train 1 = .ok (.invokestatic 80, 3) := by decide +kernel
theorem dX6_train_4 : decode cX6_train 4 = .ok (.ifCond .ne 5, 3) := by decide +kernel
theorem dX6_train_7 : decode cX6_train 7 = .ok (.iconst (-1), 1) := by decide +kernel
theorem dX6_train_8 : decode cX6_train 8 = .ok (.ireturn, 1) := by decide +kernel
theorem dX6_train_9 : decode cX6_train 9 = .ok (.iload_n 2, 1) := by decide +kernel
theorem dX6_train_10 : decode cX6_train 10 = .ok (.invokestatic 83, 3) := by decide +kernel
theorem dX6_train_13 : decode cX6_train 13 = .ok (.ifCond .ne 6, 3) := by decide +kernel
theorem dX6_train_16 : decode cX6_train 16 = .ok (.bipush (-2), 2) := by decide +kernel
theorem dX6_train_18 : decode cX6_train 18 = .ok (.ireturn, 1) := by decide +kernel
theorem dX6_train_19 : decode cX6_train 19 = .ok (.aload_n 0, 1) := by decide +kernel
theorem dX6_train_20 : decode cX6_train 20 = .ok (.getfield 10, 3) := by decide +kernel
theorem dX6_train_23 : decode cX6_train 23 = .ok (.getfield 86, 3) := by decide +kernel
theorem dX6_train_26 : decode cX6_train 26 = .ok (.iload_n 1, 1) := by decide +kernel
theorem dX6_train_27 : decode cX6_train 27 = .ok (.iaload, 1) := by decide +kernel
theorem dX6_train_28 : decode cX6_train 28 = .ok (.istore_n 3, 1) := by decide +kernel
theorem dX6_train_29 : decode cX6_train 29 = .ok (.iload_n 3, 1) := by decide +kernel
theorem dX6_train_30 : decode cX6_train 30 = .ok (.iload_n 2, 1) := by decide +kernel
theorem dX6_train_31 : decode cX6_train 31 = .ok (.if_icmp .ne 6, 3) := by decide +kernel
theorem dX6_train_34 : decode cX6_train 34 = .ok (.bipush (-5), 2) := by decide +kernel
theorem dX6_train_36 : decode cX6_train 36 = .ok (.ireturn, 1) := by decide +kernel
theorem dX6_train_37 : decode cX6_train 37 = .ok (.aload_n 0, 1) := by decide +kernel
theorem dX6_train_38 : decode cX6_train 38 = .ok (.getfield 22, 3) := by decide +kernel
theorem dX6_train_41 : decode cX6_train 41 = .ok (.aload_n 0, 1) := by decide +kernel
theorem dX6_train_42 : decode cX6_train 42 = .ok (.getfield 10, 3) := by decide +kernel
theorem dX6_train_45 : decode cX6_train 45 = .ok (.invokevirtual 77, 3) := by decide +kernel
theorem dX6_train_48 : decode cX6_train 48 = .ok (.aload_n 0, 1) := by decide +kernel
theorem dX6_train_49 : decode cX6_train 49 = .ok (.getfield 10, 3) := by decide +kernel
theorem dX6_train_52 : decode cX6_train 52 = .ok (.getfield 86, 3) := by decide +kernel
theorem dX6_train_55 : decode cX6_train 55 = .ok (.iload_n 1, 1) := by decide +kernel
theorem dX6_train_56 : decode cX6_train 56 = .ok (.iload_n 2, 1) := by decide +kernel
theorem dX6_train_57 : decode cX6_train 57 = .ok (.iastore, 1) := by decide +kernel
theorem dX6_train_58 : decode cX6_train 58 = .ok (.iload_n 3, 1) := by decide +kernel
theorem dX6_train_59 : decode cX6_train 59 = .ok (.ireturn, 1) := by decide +kernel
set_option maxRecDepth 20000 in
theorem ggX6_set_X6_isWithin : GoodIn wsX6_set wsX6_isWithin := goodIn_r _ [6] (by decide +kernel) (by decide +kernel)
set_option maxRecDepth 20000 in
theorem gX6_set_X6_isWithin : GoodIn wsX6_set (va_wsS RX6 69 yX6_isWithin wsX6_isWithin) := goodIn_app (goodIn_of _ (by decide +kernel)) ggX6_set_X6_isWithin
set_option maxRecDepth 20000 in
theorem ggX6_set_X1_push : GoodIn wsX6_set wsX1_push := goodIn_r _ [11, 12, 13, 14, 15, 16, 10, 17, 4, 5, 6, 18, 19, 20, 21, 22, 23, 24, 25, 26, 27, 28, 29, 30, 31, 32, 33, 34, 35, 36, 37, 38, 39, 40, 41, 42, 43, 44, 45, 46, 47, 48, 49, 50, 51, 52, 53, 54, 55, 56, 57, 74, 75, 76, 77, 66, 67, 68, 69, 70, 71, 72, 73, 78, 79, 80, 81, 82, 83, 84, 85, 86, 87, 88] (by decide +kernel) (by decide +kernel)
set_option maxRecDepth 20000 in
theorem gX6_set_X1_push : GoodIn wsX6_set (wsV RX6 77 RX1 yX1_push wsX1_push) := goodIn_app (goodIn_of _ (by decide +kernel)) ggX6_set_X1_push
theorem dX6_set_0 : decode cX6_set 0 = .ok (.iload_n 1, 1) := by decide +kernel
theorem dX6_set_1 : decode cX6_set 1 = .ok (.iconst 0, 1) := by decide +kernel
theorem dX6_set_2 : decode cX6_set 2 = .ok (.iconst 2, 1) := by decide +kernel
theorem dX6_set_3 : decode cX6_set 3 = .ok (.invokestatic 69, 3) := by decide +kernel
theorem dX6_set_6 : decode cX6_set 6 = .ok (.ifCond .ne 5, 3) := by decide +kernel
theorem dX6_set_9 : decode cX6_set 9 = .ok (.iconst (-1), 1) := by decide +kernel
theorem dX6_set_10 : decode cX6_set 10 = .ok (.ireturn, 1) := by decide +kernel
theorem dX6_set_11 : decode cX6_set 11 = .ok (.iload_n 2, 1) := by decide +kernel
theorem dX6_set_12 : decode cX6_set 12 = .ok (.iconst 0, 1) := by decide +kernel
theorem dX6_set_13 : decode cX6_set 13 = .ok (.iload_n 1, 1) := by decide +kernel
theorem dX6_set_14 : decode cX6_set 14 = .ok (.ifCond .ne 7, 3) := by decide +kernel
theorem dX6_set_17 : decode cX6_set 17 = .ok (.iconst 2, 1) := by decide +kernel
theorem dX6_set_18 : decode cX6_set 18 = .ok (.goto 4, 3) := by decide +kernel
theorem dX6_set_21 : decode cX6_set 21 = .ok (.iconst 1, 1) := by decide +kernel
theorem dX6_set_22 : decode cX6_set 22 = .ok (.invokestatic 69, 3) := by decide +kernel
theorem dX6_set_25 : decode cX6_set 25 = .ok (.ifCond .ne 6, 3) := by decide +kernel
theorem dX6_set_28 : decode cX6_set 28 = .ok (.bipush (-2), 2) := by decide +kernel
theorem dX6_set_30 : decode cX6_set 30 = .ok (.ireturn, 1) := by decide +kernel
theorem dX6_set_31 : decode cX6_set 31 = .ok (.aload_n 0, 1) := by decide +kernel
theorem dX6_set_32 : decode cX6_set 32 = .ok (.getfield 10, 3) := by decide +kernel
theorem dX6_set_35 : decode cX6_set 35 = .ok (.getfield 89, 3) := by decide +kernel
theorem dX6_set_38 : decode cX6_set 38 = .ok (.iload_n 1, 1) := by decide +kernel
theorem dX6_set_39 : decode cX6_set 39 = .ok (.iaload, 1) := by decide +kernel
theorem dX6_set_40 : decode cX6_set 40 = .ok (.istore_n 3, 1) := by decide +kernel
theorem dX6_set_41 : decode cX6_set 41 = .ok (.iload_n 3, 1) := by decide +kernel
theorem dX6_set_42 : decode cX6_set 42 = .ok (.iload_n 2, 1) := by decide +kernel
theorem dX6_set_43 : decode cX6_set 43 = .ok (.if_icmp .ne 6, 3) := by decide +kernel
theorem dX6_set_46 : decode cX6_set 46 = .ok (.bipush (-5), 2) := by decide +kernel
theorem dX6_set_48 : decode cX6_set 48 = .ok (.ireturn, 1) := by decide +kernel
theorem dX6_set_49 : decode cX6_set 49 = .ok (.aload_n 0, 1) := by decide +kernel
theorem dX6_set_50 : decode cX6_set 50 = .ok (.getfield 22, 3) := by decide +kernel
theorem dX6_set_53 : decode cX6_set 53 = .ok (.aload_n 0, 1) := by decide +kernel
theorem dX6_set_54 : decode cX6_set 54 = .ok (.getfield 10, 3) := by decide +kernel
theorem dX6_set_57 : decode cX6_set 57 = .ok (.invokevirtual 77, 3) := by decide +kernel
theorem dX6_set_60 : decode cX6_set 60 = .ok (.aload_n 0, 1) := by decide +kernel
theorem dX6_set_61 : decode cX6_set 61 = .ok (.getfield 10, 3) := by decide +kernel
theorem dX6_set_64 : decode cX6_set 64 = .ok (.getfield 89, 3) := by decide +kernel
theorem dX6_set_67 : decode cX6_set 67 = .ok (.iload_n 1, 1) := by decide +kernel
theorem dX6_set_68 : decode cX6_set 68 = .ok (.iload_n 2, 1) := by decide +kernel
theorem dX6_set_69 : decode cX6_set 69 = .ok (.iastore, 1) := by decide +kernel
theorem dX6_set_70 : decode cX6_set 70 = .ok (.iload_n 3, 1) := by decide +kernel
theorem dX6_set_71 : decode cX6_set 71 = .ok (.ireturn, 1) := by decide +kernel
set_option maxRecDepth 20000 in
theorem ggX6_leave_X5_copyFrom : GoodIn wsX6_leave wsX5_copyFrom := goodIn_r _ [7, 8, 9, 10, 11, 12, 13, 14, 15, 16, 17, 18, 19, 20, 21, 22, 23, 24, 25, 26, 27, 28, 29, 30, 31, 32, 33, 34, 35, 36, 37, 38, 39, 40, 41, 42, 43, 171, 172, 173, 174, 175, 176, 177, 178, 179, 180, 181, 182, 183, 184, 185, 186, 187, 188, 189] (by decide +kernel) (by decide +kernel)
set_option maxRecDepth 20000 in
theorem gX6_leave_X5_copyFrom : GoodIn wsX6_leave (wsV RX6 50 RX5 yX5_copyFrom wsX5_copyFrom) := goodIn_app (goodIn_of _ (by decide +kernel)) ggX6_leave_X5_copyFrom
set_option maxRecDepth 20000 in
theorem ggX6_leave_X6_grantLeave : GoodIn wsX6_leave wsX6_grantLeave := goodIn_r _ [47, 2, 48, 49, 50, 17, 51, 52, 53, 54, 55, 56, 57, 58, 59, 60, 61, 62, 63, 26, 64, 28, 29, 30, 31, 65, 66, 67, 68, 69, 70, 71, 72, 73, 74, 75, 76, 77, 78, 79, 80, 81, 82, 83, 84, 85, 86, 87, 88, 89, 90, 91, 92, 93, 94, 95, 6, 96, 13, 14, 97, 98, 99, 100, 101, 102, 103, 104, 105, 106, 107, 108, 109, 110, 111, 112, 113, 114, 11, 12, 115, 116, 117, 118, 119, 120, 121, 122, 123, 124, 125, 126, 127, 128, 129, 130, 131, 132, 133, 134, 135, 136, 137, 138, 139, 140, 141, 142, 143, 144, 145, 163, 164, 165, 166, 167, 168, 169, 170, 171, 172, 173, 174, 175, 176, 177, 178, 179, 180, 181, 182, 190, 191, 192, 193, 194, 195] (by decide +kernel) (by decide +kernel)
set_option maxRecDepth 20000 in
theorem gX6_leave_X6_grantLeave : GoodIn wsX6_leave (wsV RX6 92 RX6 yX6_grantLeave wsX6_grantLeave) := goodIn_app (goodIn_of _ (by decide +kernel)) ggX6_leave_X6_grantLeave
set_option maxRecDepth 20000 in
theorem ggX6_leave_X6_recorded : GoodIn wsX6_leave wsX6_recorded := goodIn_r _ [149, 150, 1, 151, 152, 153, 154, 155, 156, 157, 158, 159, 160, 161, 59, 17, 60, 162, 4, 5, 6, 7, 8, 9, 10, 11, 12, 13, 14, 15, 16, 18, 19, 20, 21, 22, 23, 24, 25, 26, 27, 28, 29, 30, 31, 32, 33, 34, 35, 36, 37, 38, 39, 40, 41, 42, 43, 163, 164, 165, 166, 167, 168, 169, 170, 196, 197, 198, 199, 171, 172, 173, 174, 175, 176, 177, 178, 179, 180, 181, 182, 183, 184, 185, 186, 187, 188, 189] (by decide +kernel) (by decide +kernel)
set_option maxRecDepth 20000 in
theorem gX6_leave_X6_recorded : GoodIn wsX6_leave (wsV RX6 58 RX6 yX6_recorded wsX6_recorded) := goodIn_app (goodIn_of _ (by decide +kernel)) ggX6_leave_X6_recorded
theorem dX6_leave_0 : decode cX6_leave 0 = .ok (.aload_n 0, 1) := by decide +kernel
theorem dX6_leave_1 : decode cX6_leave 1 = .ok (.getfield 16, 3) := by decide +kernel
theorem dX6_leave_4 : decode cX6_leave 4 = .ok (.aload_n 0, 1) := by decide +kernel
