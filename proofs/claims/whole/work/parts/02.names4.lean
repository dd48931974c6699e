theorem dX6_shortByMore_4 : decode cX6_shortByMore 4 = .ok (.istore 5, 2) := by decide +kernel
theorem dX6_shortByMore_6 : decode cX6_shortByMore 6 = .ok (.iload 5, 2) := by decide +kernel
theorem dX6_shortByMore_8 : decode cX6_shortByMore 8 = .ok (.iload_n 3, 1) := by decide +kernel
theorem dX6_shortByMore_9 : decode cX6_shortByMore 9 = .ok (.if_icmp .gt 76, 3) := by decide +kernel
theorem dX6_shortByMore_12 : decode cX6_shortByMore 12 = .ok (.iload 5, 2) := by decide +kernel
theorem dX6_shortByMore_14 : decode cX6_shortByMore 14 = .ok (.sipush 399, 3) := by decide +kernel
theorem dX6_shortByMore_17 : decode cX6_shortByMore 17 = .ok (.if_icmp .gt 68, 3) := by decide +kernel
theorem dX6_shortByMore_20 : decode cX6_shortByMore 20 = .ok (.aload_n 0, 1) := by decide +kernel
theorem dX6_shortByMore_21 : decode cX6_shortByMore 21 = .ok (.getfield 36, 3) := by decide +kernel
theorem dX6_shortByMore_24 : decode cX6_shortByMore 24 = .ok (.aload_n 0, 1) := by decide +kernel
theorem dX6_shortByMore_25 : decode cX6_shortByMore 25 = .ok (.getfield 10, 3) := by decide +kernel
theorem dX6_shortByMore_28 : decode cX6_shortByMore 28 = .ok (.iload 5, 2) := by decide +kernel
theorem dX6_shortByMore_30 : decode cX6_shortByMore 30 = .ok (.iconst 0, 1) := by decide +kernel
theorem dX6_shortByMore_31 : decode cX6_shortByMore 31 = .ok (.invokevirtual 149, 3) := by decide +kernel
theorem dX6_shortByMore_34 : decode cX6_shortByMore 34 = .ok (.aload_n 0, 1) := by decide +kernel
theorem dX6_shortByMore_35 : decode cX6_shortByMore 35 = .ok (.getfield 36, 3) := by decide +kernel
theorem dX6_shortByMore_38 : decode cX6_shortByMore 38 = .ok (.iload_n 1, 1) := by decide +kernel
theorem dX6_shortByMore_39 : decode cX6_shortByMore 39 = .ok (.invokevirtual 195, 3) := by decide +kernel
theorem dX6_shortByMore_42 : decode cX6_shortByMore 42 = .ok (.bipush (-5), 2) := by decide +kernel
theorem dX6_shortByMore_44 : decode cX6_shortByMore 44 = .ok (.if_icmp .eq 35, 3) := by decide +kernel
theorem dX6_shortByMore_47 : decode cX6_shortByMore 47 = .ok (.aload_n 0, 1) := by decide +kernel
theorem dX6_shortByMore_48 : decode cX6_shortByMore 48 = .ok (.getfield 40, 3) := by decide +kernel
theorem dX6_shortByMore_51 : decode cX6_shortByMore 51 = .ok (.aload_n 0, 1) := by decide +kernel
theorem dX6_shortByMore_52 : decode cX6_shortByMore 52 = .ok (.getfield 10, 3) := by decide +kernel
theorem dX6_shortByMore_55 : decode cX6_shortByMore 55 = .ok (.iload 5, 2) := by decide +kernel
theorem dX6_shortByMore_57 : decode cX6_shortByMore 57 = .ok (.iconst 1, 1) := by decide +kernel
theorem dX6_shortByMore_58 : decode cX6_shortByMore 58 = .ok (.iload_n 1, 1) := by decide +kernel
theorem dX6_shortByMore_59 : decode cX6_shortByMore 59 = .ok (.ishl, 1) := by decide +kernel
theorem dX6_shortByMore_60 : decode cX6_shortByMore 60 = .ok (.invokevirtual 149, 3) := by decide +kernel
theorem dX6_shortByMore_63 : decode cX6_shortByMore 63 = .ok (.iload 4, 2) := by decide +kernel
theorem dX6_shortByMore_65 : decode cX6_shortByMore 65 = .ok (.aload_n 0, 1) := by decide +kernel
theorem dX6_shortByMore_66 : decode cX6_shortByMore 66 = .ok (.getfield 40, 3) := by decide +kernel
theorem dX6_shortByMore_69 : decode cX6_shortByMore 69 = .ok (.aload_n 0, 1) := by decide +kernel
theorem dX6_shortByMore_70 : decode cX6_shortByMore 70 = .ok (.getfield 36, 3) := by decide +kernel
theorem dX6_shortByMore_73 : decode cX6_shortByMore 73 = .ok (.invokevirtual 268, 3) := by decide +kernel
theorem dX6_shortByMore_76 : decode cX6_shortByMore 76 = .ok (.iadd, 1) := by decide +kernel
theorem dX6_shortByMore_77 : decode cX6_shortByMore 77 = .ok (.istore 4, 2) := by decide +kernel
theorem dX6_shortByMore_79 : decode cX6_shortByMore 79 = .ok (.iinc 5 1, 3) := by decide +kernel
theorem dX6_shortByMore_82 : decode cX6_shortByMore 82 = .ok (.goto (-76), 3) := by decide +kernel
theorem dX6_shortByMore_85 : decode cX6_shortByMore 85 = .ok (.iload 4, 2) := by decide +kernel
theorem dX6_shortByMore_87 : decode cX6_shortByMore 87 = .ok (.ireturn, 1) := by decide +kernel
set_option maxRecDepth 20000 in
theorem ggX6_floorsReadyOn_X5_floorsDueIn : GoodIn wsX6_floorsReadyOn wsX5_floorsDueIn := goodIn_r _ [7, 8, 9, 10, 11, 12, 84, 85, 86, 87, 88, 89, 90, 91, 92, 93, 94, 95, 96, 97, 98] (by decide +kernel) (by decide +kernel)
set_option maxRecDepth 20000 in
theorem gX6_floorsReadyOn_X5_floorsDueIn : GoodIn wsX6_floorsReadyOn (wsV RX6 198 RX5 yX5_floorsDueIn wsX5_floorsDueIn) := goodIn_app (goodIn_of _ (by decide +kernel)) ggX6_floorsReadyOn_X5_floorsDueIn
set_option maxRecDepth 20000 in
theorem ggX6_floorsReadyOn_X4_lay : GoodIn wsX6_floorsReadyOn wsX4_lay := goodIn_r _ [17, 18, 19, 20, 21, 16, 22, 23, 24, 25, 26, 27, 28, 29, 30, 31, 32, 33, 34, 35, 36, 37, 6, 38, 39, 40, 41, 42, 43, 44, 45, 46, 47, 48, 49, 50, 51, 52, 53, 54, 11, 55, 56, 57, 58, 59, 60, 61, 62, 63, 64, 65, 10, 12, 66, 67, 68, 69, 70, 71, 72, 73, 74, 99, 100, 101, 102, 103, 104, 84, 85, 86, 87, 88, 89, 90, 91, 105, 106, 107, 108] (by decide +kernel) (by decide +kernel)
set_option maxRecDepth 20000 in
theorem gX6_floorsReadyOn_X4_lay : GoodIn wsX6_floorsReadyOn (wsV RX6 149 RX4 yX4_lay wsX4_lay) := goodIn_app (goodIn_of _ (by decide +kernel)) ggX6_floorsReadyOn_X4_lay
set_option maxRecDepth 20000 in
theorem ggX6_floorsReadyOn_X4_lack : GoodIn wsX6_floorsReadyOn wsX4_lack := goodIn_r _ [59, 24, 25, 99, 100, 101, 102, 103, 104] (by decide +kernel) (by decide +kernel)
set_option maxRecDepth 20000 in
theorem gX6_floorsReadyOn_X4_lack : GoodIn wsX6_floorsReadyOn (wsV RX6 159 RX4 yX4_lack wsX4_lack) := goodIn_app (goodIn_of _ (by decide +kernel)) ggX6_floorsReadyOn_X4_lack
theorem dX6_floorsReadyOn_0 : decode cX6_floorsReadyOn 0 = .ok (.aload_n 0, 1) := by decide +kernel
theorem dX6_floorsReadyOn_1 : decode cX6_floorsReadyOn 1 = .ok (.getfield 10, 3) := by decide +kernel
theorem dX6_floorsReadyOn_4 : decode cX6_floorsReadyOn 4 = .ok (.iload_n 1, 1) := by decide +kernel
theorem dX6_floorsReadyOn_5 : decode cX6_floorsReadyOn 5 = .ok (.bipush 100, 2) := by decide +kernel
theorem dX6_floorsReadyOn_7 : decode cX6_floorsReadyOn 7 = .ok (.idiv, 1) := by decide +kernel
theorem dX6_floorsReadyOn_8 : decode cX6_floorsReadyOn 8 = .ok (.invokevirtual 198, 3) := by decide +kernel
theorem dX6_floorsReadyOn_11 : decode cX6_floorsReadyOn 11 = .ok (.istore_n 2, 1) := by decide +kernel
theorem dX6_floorsReadyOn_12 : decode cX6_floorsReadyOn 12 = .ok (.aload_n 0, 1) := by decide +kernel
theorem dX6_floorsReadyOn_13 : decode cX6_floorsReadyOn 13 = .ok (.getfield 36, 3) := by decide +kernel
theorem dX6_floorsReadyOn_16 : decode cX6_floorsReadyOn 16 = .ok (.aload_n 0, 1) := by decide +kernel
theorem dX6_floorsReadyOn_17 : decode cX6_floorsReadyOn 17 = .ok (.getfield 10, 3) := by decide +kernel
theorem dX6_floorsReadyOn_20 : decode cX6_floorsReadyOn 20 = .ok (.iload_n 1, 1) := by decide +kernel
theorem dX6_floorsReadyOn_21 : decode cX6_floorsReadyOn 21 = .ok (.iconst 0, 1) := by decide +kernel
theorem dX6_floorsReadyOn_22 : decode cX6_floorsReadyOn 22 = .ok (.invokevirtual 149, 3) := by decide +kernel
theorem dX6_floorsReadyOn_25 : decode cX6_floorsReadyOn 25 = .ok (.iconst 0, 1) := by decide +kernel
theorem dX6_floorsReadyOn_26 : decode cX6_floorsReadyOn 26 = .ok (.istore_n 3, 1) := by decide +kernel
theorem dX6_floorsReadyOn_27 : decode cX6_floorsReadyOn 27 = .ok (.iload_n 3, 1) := by decide +kernel
theorem dX6_floorsReadyOn_28 : decode cX6_floorsReadyOn 28 = .ok (.bipush 10, 2) := by decide +kernel
theorem dX6_floorsReadyOn_30 : decode cX6_floorsReadyOn 30 = .ok (.if_icmp .ge 28, 3) := by decide +kernel
theorem dX6_floorsReadyOn_33 : decode cX6_floorsReadyOn 33 = .ok (.aload_n 0, 1) := by decide +kernel
theorem dX6_floorsReadyOn_34 : decode cX6_floorsReadyOn 34 = .ok (.getfield 36, 3) := by decide +kernel
theorem dX6_floorsReadyOn_37 : decode cX6_floorsReadyOn 37 = .ok (.iload_n 3, 1) := by decide +kernel
theorem dX6_floorsReadyOn_38 : decode cX6_floorsReadyOn 38 = .ok (.invokevirtual 159, 3) := by decide +kernel
theorem dX6_floorsReadyOn_41 : decode cX6_floorsReadyOn 41 = .ok (.ifCond .le 11, 3) := by decide +kernel
theorem dX6_floorsReadyOn_44 : decode cX6_floorsReadyOn 44 = .ok (.iload_n 2, 1) := by decide +kernel
theorem dX6_floorsReadyOn_45 : decode cX6_floorsReadyOn 45 = .ok (.iconst 1, 1) := by decide +kernel
theorem dX6_floorsReadyOn_46 : decode cX6_floorsReadyOn 46 = .ok (.iload_n 3, 1) := by decide +kernel
theorem dX6_floorsReadyOn_47 : decode cX6_floorsReadyOn 47 = .ok (.ishl, 1) := by decide +kernel
theorem dX6_floorsReadyOn_48 : decode cX6_floorsReadyOn 48 = .ok (.iconst (-1), 1) := by decide +kernel
theorem dX6_floorsReadyOn_49 : decode cX6_floorsReadyOn 49 = .ok (.ixor, 1) := by decide +kernel
theorem dX6_floorsReadyOn_50 : decode cX6_floorsReadyOn 50 = .ok (.iand, 1) := by decide +kernel
theorem dX6_floorsReadyOn_51 : decode cX6_floorsReadyOn 51 = .ok (.istore_n 2, 1) := by decide +kernel
theorem dX6_floorsReadyOn_52 : decode cX6_floorsReadyOn 52 = .ok (.iinc 3 1, 3) := by decide +kernel
theorem dX6_floorsReadyOn_55 : decode cX6_floorsReadyOn 55 = .ok (.goto (-28), 3) := by decide +kernel
theorem dX6_floorsReadyOn_58 : decode cX6_floorsReadyOn 58 = .ok (.iload_n 2, 1) := by decide +kernel
theorem dX6_floorsReadyOn_59 : decode cX6_floorsReadyOn 59 = .ok (.ireturn, 1) := by decide +kernel
set_option maxRecDepth 20000 in
theorem ggX6_floorsShortToday_X4_lay : GoodIn wsX6_floorsShortToday wsX4_lay := goodIn_r _ [7, 8, 9, 10, 11, 6, 12, 13, 14, 15, 16, 17, 18, 19, 20, 21, 22, 23, 24, 25, 26, 27, 28, 29, 30, 31, 32, 33, 34, 35, 36, 37, 38, 39, 40, 41, 42, 43, 44, 45, 46, 47, 48, 49, 50, 51, 52, 53, 54, 55, 56, 57, 58, 59, 60, 61, 62, 63, 64, 65, 66, 67, 68, 86, 87, 88, 89, 90, 91, 78, 79, 80, 81, 82, 83, 84, 85, 92, 93, 94, 95] (by decide +kernel) (by decide +kernel)
set_option maxRecDepth 20000 in
theorem gX6_floorsShortToday_X4_lay : GoodIn wsX6_floorsShortToday (wsV RX6 149 RX4 yX4_lay wsX4_lay) := goodIn_app (goodIn_of _ (by decide +kernel)) ggX6_floorsShortToday_X4_lay
set_option maxRecDepth 20000 in
theorem ggX6_floorsShortToday_X4_lack : GoodIn wsX6_floorsShortToday wsX4_lack := goodIn_r _ [51, 14, 15, 86, 87, 88, 89, 90, 91] (by decide +kernel) (by decide +kernel)
set_option maxRecDepth 20000 in
theorem gX6_floorsShortToday_X4_lack : GoodIn wsX6_floorsShortToday (wsV RX6 159 RX4 yX4_lack wsX4_lack) := goodIn_app (goodIn_of _ (by decide +kernel)) ggX6_floorsShortToday_X4_lack
theorem dX6_floorsShortToday_0 : decode cX6_floorsShortToday 0 = .ok (.aload_n 0, 1) := by decide +kernel
theorem dX6_floorsShortToday_1 : decode cX6_floorsShortToday 1 = .ok (.getfield 36, 3) := by decide +kernel
theorem dX6_floorsShortToday_4 : decode cX6_floorsShortToday 4 = .ok (.aload_n 0, 1) := by decide +kernel
theorem dX6_floorsShortToday_5 : decode cX6_floorsShortToday 5 = .ok (.getfield 10, 3) := by decide +kernel
theorem dX6_floorsShortToday_8 : decode cX6_floorsShortToday 8 = .ok (.aload_n 0, 1) := by decide +kernel
theorem dX6_floorsShortToday_9 : decode cX6_floorsShortToday 9 = .ok (.getfield 10, 3) := by decide +kernel
theorem dX6_floorsShortToday_12 : decode cX6_floorsShortToday 12 = .ok (.getfield 142, 3) := by decide +kernel
theorem dX6_floorsShortToday_15 : decode cX6_floorsShortToday 15 = .ok (.iconst 0, 1) := by decide +kernel
theorem dX6_floorsShortToday_16 : decode cX6_floorsShortToday 16 = .ok (.invokevirtual 149, 3) := by decide +kernel
theorem dX6_floorsShortToday_19 : decode cX6_floorsShortToday 19 = .ok (.iconst 0, 1) := by decide +kernel
theorem dX6_floorsShortToday_20 : decode cX6_floorsShortToday 20 = .ok (.istore_n 1, 1) := by decide +kernel
theorem dX6_floorsShortToday_21 : decode cX6_floorsShortToday 21 = .ok (.iconst 0, 1) := by decide +kernel
theorem dX6_floorsShortToday_22 : decode cX6_floorsShortToday 22 = .ok (.istore_n 2, 1) := by decide +kernel
theorem dX6_floorsShortToday_23 : decode cX6_floorsShortToday 23 = .ok (.iload_n 2, 1) := by decide +kernel
theorem dX6_floorsShortToday_24 : decode cX6_floorsShortToday 24 = .ok (.bipush 10, 2) := by decide +kernel
theorem dX6_floorsShortToday_26 : decode cX6_floorsShortToday 26 = .ok (.if_icmp .ge 23, 3) := by decide +kernel
theorem dX6_floorsShortToday_29 : decode cX6_floorsShortToday 29 = .ok (.aload_n 0, 1) := by decide +kernel
theorem dX6_floorsShortToday_30 : decode cX6_floorsShortToday 30 = .ok (.getfield 36, 3) := by decide +kernel
theorem dX6_floorsShortToday_33 : decode cX6_floorsShortToday 33 = .ok (.iload_n 2, 1) := by decide +kernel
theorem dX6_floorsShortToday_34 : decode cX6_floorsShortToday 34 = .ok (.invokevirtual 159, 3) := by decide +kernel
theorem dX6_floorsShortToday_37 : decode cX6_floorsShortToday 37 = .ok (.ifCond .le 6, 3) := by decide +kernel
theorem dX6_floorsShortToday_40 : decode cX6_floorsShortToday 40 = .ok (.iinc 1 1, 3) := by decide +kernel
theorem dX6_floorsShortToday_43 : decode cX6_floorsShortToday 43 = .ok (.iinc 2 1, 3) := by decide +kernel
theorem dX6_floorsShortToday_46 : decode cX6_floorsShortToday 46 = .ok (.goto (-23), 3) := by decide +kernel
theorem dX6_floorsShortToday_49 : decode cX6_floorsShortToday 49 = .ok (.iload_n 1, 1) := by decide +kernel
theorem dX6_floorsShortToday_50 : decode cX6_floorsShortToday 50 = .ok (.ireturn, 1) := by decide +kernel
set_option maxRecDepth 20000 in
theorem ggX6_wardensLackingToday_X4_lay : GoodIn wsX6_wardensLackingToday wsX4_lay := goodIn_r _ [7, 8, 9, 10, 11, 6, 12, 13, 14, 15, 16, 17, 18, 19, 20, 21, 22, 23, 24, 25, 26, 27, 28, 29, 30, 31, 32, 33, 34, 35, 36, 37, 38, 39, 40, 41, 42, 43, 44, 45, 46, 47, 48, 49, 50, 51, 52, 53, 54, 55, 56, 57, 58, 59, 60, 61, 62, 63, 64, 65, 66, 67, 68, 86, 87, 88, 89, 90, 91, 78, 79, 80, 81, 82, 83, 84, 85, 92, 93, 94, 95] (by decide +kernel) (by decide +kernel)
set_option maxRecDepth 20000 in
theorem gX6_wardensLackingToday_X4_lay : GoodIn wsX6_wardensLackingToday (wsV RX6 149 RX4 yX4_lay wsX4_lay) := goodIn_app (goodIn_of _ (by decide +kernel)) ggX6_wardensLackingToday_X4_lay
set_option maxRecDepth 20000 in
theorem ggX6_wardensLackingToday_X4_lack : GoodIn wsX6_wardensLackingToday wsX4_lack := goodIn_r _ [51, 14, 15, 86, 87, 88, 89, 90, 91] (by decide +kernel) (by decide +kernel)
set_option maxRecDepth 20000 in
theorem gX6_wardensLackingToday_X4_lack : GoodIn wsX6_wardensLackingToday (wsV RX6 159 RX4 yX4_lack wsX4_lack) := goodIn_app (goodIn_of _ (by decide +kernel)) ggX6_wardensLackingToday_X4_lack
theorem dX6_wardensLackingToday_0 : decode cX6_wardensLackingToday 0 = .ok (.aload_n 0, 1) := by decide +kernel
theorem dX6_wardensLackingToday_1 : decode cX6_wardensLackingToday 1 = .ok (.getfield 36, 3) := by decide +kernel
theorem dX6_wardensLackingToday_4 : decode cX6_wardensLackingToday 4 = .ok (.aload_n 0, 1) := by decide +kernel
theorem dX6_wardensLackingToday_5 : decode cX6_wardensLackingToday 5 = .ok (.getfield 10, 3) := by decide +kernel
theorem dX6_wardensLackingToday_8 : decode cX6_wardensLackingToday 8 = .ok (.aload_n 0, 1) := by decide +kernel
theorem dX6_wardensLackingToday_9 : decode cX6_wardensLackingToday 9 = .ok (.getfield 10, 3) := by decide +kernel
theorem dX6_wardensLackingToday_12 : decode cX6_wardensLackingToday 12 = .ok (.getfield 142, 3) := by decide +kernel
theorem dX6_wardensLackingToday_15 : decode cX6_wardensLackingToday 15 = .ok (.iconst 0, 1) := by decide +kernel
theorem dX6_wardensLackingToday_16 : decode cX6_wardensLackingToday 16 = .ok (.invokevirtual 149, 3) := by decide +kernel
theorem dX6_wardensLackingToday_19 : decode cX6_wardensLackingToday 19 = .ok (.iconst 0, 1) := by decide +kernel
theorem dX6_wardensLackingToday_20 : decode cX6_wardensLackingToday 20 = .ok (.istore_n 1, 1) := by decide +kernel
theorem dX6_wardensLackingToday_21 : decode cX6_wardensLackingToday 21 = .ok (.iconst 0, 1) := by decide +kernel
theorem dX6_wardensLackingToday_22 : decode cX6_wardensLackingToday 22 = .ok (.istore_n 2, 1) := by decide +kernel
theorem dX6_wardensLackingToday_23 : decode cX6_wardensLackingToday 23 = .ok (.iload_n 2, 1) := by decide +kernel
theorem dX6_wardensLackingToday_24 : decode cX6_wardensLackingToday 24 = .ok (.bipush 10, 2) := by decide +kernel
theorem dX6_wardensLackingToday_26 : decode cX6_wardensLackingToday 26 = .ok (.if_icmp .ge 20, 3) := by decide +kernel
theorem dX6_wardensLackingToday_29 : decode cX6_wardensLackingToday 29 = .ok (.iload_n 1, 1) := by decide +kernel
theorem dX6_wardensLackingToday_30 : decode cX6_wardensLackingToday 30 = .ok (.aload_n 0, 1) := by decide +kernel
theorem dX6_wardensLackingToday_31 : decode cX6_wardensLackingToday 31 = .ok (.getfield 36, 3) := by decide +kernel
theorem dX6_wardensLackingToday_34 : decode cX6_wardensLackingToday 34 = .ok (.iload_n 2, 1) := by decide +kernel
theorem dX6_wardensLackingToday_35 : decode cX6_wardensLackingToday 35 = .ok (.invokevirtual 159, 3) := by decide +kernel
theorem dX6_wardensLackingToday_38 : decode cX6_wardensLackingToday 38 = .ok (.iadd, 1) := by decide +kernel
theorem dX6_wardensLackingToday_39 : decode cX6_wardensLackingToday 39 = .ok (.istore_n 1, 1) := by decide +kernel
theorem dX6_wardensLackingToday_40 : decode cX6_wardensLackingToday 40 = .ok (.iinc 2 1, 3) := by decide +kernel
theorem dX6_wardensLackingToday_43 : decode cX6_wardensLackingToday 43 = .ok (.goto (-20), 3) := by decide +kernel
theorem dX6_wardensLackingToday_46 : decode cX6_wardensLackingToday 46 = .ok (.iload_n 1, 1) := by decide +kernel
theorem dX6_wardensLackingToday_47 : decode cX6_wardensLackingToday 47 = .ok (.ireturn, 1) := by decide +kernel
theorem dX6_isWithin_0 : decode cX6_isWithin 0 = .ok (.iload_n 1, 1) := by decide +kernel
theorem dX6_isWithin_1 : decode cX6_isWithin 1 = .ok (.iload_n 0, 1) := by decide +kernel
theorem dX6_isWithin_2 : decode cX6_isWithin 2 = .ok (.if_icmp .gt 12, 3) := by decide +kernel
theorem dX6_isWithin_5 : decode cX6_isWithin 5 = .ok (.iload_n 0, 1) := by decide +kernel
theorem dX6_isWithin_6 : decode cX6_isWithin 6 = .ok (.iload_n 2, 1) := by decide +kernel
theorem dX6_isWithin_7 : decode cX6_isWithin 7 = .ok (.if_icmp .gt 7, 3) := by decide +kernel
theorem dX6_isWithin_10 : decode cX6_isWithin 10 = .ok (.iconst 1, 1) := by decide +kernel
theorem dX6_isWithin_11 : decode cX6_isWithin 11 = .ok (.goto 4, 3) := by decide +kernel
theorem dX6_isWithin_14 : decode cX6_isWithin 14 = .ok (.iconst 0, 1) := by decide +kernel
theorem dX6_isWithin_15 : decode cX6_isWithin 15 = .ok (.ireturn, 1) := by decide +kernel
theorem dX6_isFloor_0 : decode cX6_isFloor 0 = .ok (.iconst 0, 1) := by decide +kernel
theorem dX6_isFloor_1 : decode cX6_isFloor 1 = .ok (.iload_n 0, 1) := by decide +kernel
theorem dX6_isFloor_2 : decode cX6_isFloor 2 = .ok (.if_icmp .gt 13, 3) := by decide +kernel
theorem dX6_isFloor_5 : decode cX6_isFloor 5 = .ok (.iload_n 0, 1) := by decide +kernel
theorem dX6_isFloor_6 : decode cX6_isFloor 6 = .ok (.bipush 10, 2) := by decide +kernel
theorem dX6_isFloor_8 : decode cX6_isFloor 8 = .ok (.if_icmp .ge 7, 3) := by decide +kernel
theorem dX6_isFloor_11 : decode cX6_isFloor 11 = .ok (.iconst 1, 1) := by decide +kernel
theorem dX6_isFloor_12 : decode cX6_isFloor 12 = .ok (.goto 4, 3) := by decide +kernel
theorem dX6_isFloor_15 : decode cX6_isFloor 15 = .ok (.iconst 0, 1) := by decide +kernel
theorem dX6_isFloor_16 : decode cX6_isFloor 16 = .ok (.ireturn, 1) := by decide +kernel
theorem dX6_isPerson_0 : decode cX6_isPerson 0 = .ok (.iconst 0, 1) := by decide +kernel
theorem dX6_isPerson_1 : decode cX6_isPerson 1 = .ok (.iload_n 0, 1) := by decide +kernel
theorem dX6_isPerson_2 : decode cX6_isPerson 2 = .ok (.if_icmp .gt 13, 3) := by decide +kernel
theorem dX6_isPerson_5 : decode cX6_isPerson 5 = .ok (.iload_n 0, 1) := by decide +kernel
theorem dX6_isPerson_6 : decode cX6_isPerson 6 = .ok (.bipush 16, 2) := by decide +kernel
theorem dX6_isPerson_8 : decode cX6_isPerson 8 = .ok (.if_icmp .ge 7, 3) := by decide +kernel
theorem dX6_isPerson_11 : decode cX6_isPerson 11 = .ok (.iconst 1, 1) := by decide +kernel
theorem dX6_isPerson_12 : decode cX6_isPerson 12 = .ok (.goto 4, 3) := by decide +kernel
theorem dX6_isPerson_15 : decode cX6_isPerson 15 = .ok (.iconst 0, 1) := by decide +kernel
theorem dX6_isPerson_16 : decode cX6_isPerson 16 = .ok (.ireturn, 1) := by decide +kernel
theorem dX6_isDay_0 : decode cX6_isDay 0 = .ok (.iconst 0, 1) := by decide +kernel
theorem dX6_isDay_1 : decode cX6_isDay 1 = .ok (.iload_n 0, 1) := by decide +kernel
theorem dX6_isDay_2 : decode cX6_isDay 2 = .ok (.if_icmp .gt 14, 3) := by decide +kernel
theorem dX6_isDay_5 : decode cX6_isDay 5 = .ok (.iload_n 0, 1) := by decide +kernel
theorem dX6_isDay_6 : decode cX6_isDay 6 = .ok (.sipush 399, 3) := by decide +kernel
theorem dX6_isDay_9 : decode cX6_isDay 9 = .ok (.if_icmp .gt 7, 3) := by decide +kernel
theorem dX6_isDay_12 : decode cX6_isDay 12 = .ok (.iconst 1, 1) := by decide +kernel
theorem dX6_isDay_13 : decode cX6_isDay 13 = .ok (.goto 4, 3) := by decide +kernel
theorem dX6_isDay_16 : decode cX6_isDay 16 = .ok (.iconst 0, 1) := by decide +kernel
theorem dX6_isDay_17 : decode cX6_isDay 17 = .ok (.ireturn, 1) := by decide +kernel
theorem dX6_isIn_0 : decode cX6_isIn 0 = .ok (.iload_n 0, 1) := by decide +kernel
theorem dX6_isIn_1 : decode cX6_isIn 1 = .ok (.iload_n 1, 1) := by decide +kernel
theorem dX6_isIn_2 : decode cX6_isIn 2 = .ok (.ishr, 1) := by decide +kernel
theorem dX6_isIn_3 : decode cX6_isIn 3 = .ok (.iconst 1, 1) := by decide +kernel
theorem dX6_isIn_4 : decode cX6_isIn 4 = .ok (.iand, 1) := by decide +kernel
theorem dX6_isIn_5 : decode cX6_isIn 5 = .ok (.ifCond .eq 7, 3) := by decide +kernel
theorem dX6_isIn_8 : decode cX6_isIn 8 = .ok (.iconst 1, 1) := by decide +kernel
theorem dX6_isIn_9 : decode cX6_isIn 9 = .ok (.goto 4, 3) := by decide +kernel
theorem dX6_isIn_12 : decode cX6_isIn 12 = .ok (.iconst 0, 1) := by decide +kernel
theorem dX6_isIn_13 : decode cX6_isIn 13 = .ok (.ireturn, 1) := by decide +kernel
theorem dX6_copy_0 : decode cX6_copy 0 = .ok (.aload_n 0, 1) := by decide +kernel
theorem dX6_copy_1 : decode cX6_copy 1 = .ok (.arraylength, 1) := by decide +kernel
theorem dX6_copy_2 : decode cX6_copy 2 = .ok (.aload_n 1, 1) := by decide +kernel
theorem dX6_copy_3 : decode cX6_copy 3 = .ok (.arraylength, 1) := by decide +kernel
theorem dX6_copy_4 : decode cX6_copy 4 = .ok (.if_icmp .ne 12, 3) := by decide +kernel
theorem dX6_copy_7 : decode cX6_copy 7 = .ok (.aload_n 0, 1) := by decide +kernel
theorem dX6_copy_8 : decode cX6_copy 8 = .ok (.iconst 0, 1) := by decide +kernel
theorem dX6_copy_9 : decode cX6_copy 9 = .ok (.aload_n 1, 1) := by decide +kernel
theorem dX6_copy_10 : decode cX6_copy 10 = .ok (.iconst 0, 1) := by decide +kernel
theorem dX6_copy_11 : decode cX6_copy 11 = .ok (.aload_n 0, 1) := by decide +kernel
theorem dX6_copy_12 : decode cX6_copy 12 = .ok (.arraylength, 1) := by decide +kernel
theorem dX6_copy_13 : decode cX6_copy 13 = .ok (.invokestatic 272, 3) := by decide +kernel
theorem dX6_copy_16 : decode cX6_copy 16 = .ok (.return_, 1) := by decide +kernel
set_option maxRecDepth 20000 in
theorem ggX7_init_X7_lay : GoodIn wsX7_init wsX7_lay := goodIn_r _ [22, 5, 23, 24, 25, 26, 27, 28, 29, 30, 31, 32, 33, 34, 35, 36, 37, 38, 39, 40, 41, 42] (by decide +kernel) (by decide +kernel)
set_option maxRecDepth 20000 in
theorem gX7_init_X7_lay : GoodIn wsX7_init (wsV RX7 50 RX7 yX7_lay wsX7_lay) := goodIn_app (goodIn_of _ (by decide +kernel)) ggX7_init_X7_lay
theorem dX7_init_0 : decode cX7_init 0 = .ok (.aload_n 0, 1) := by decide +kernel
theorem dX7_init_1 : decode cX7_init 1 = .ok (.invokespecial 1, 3) := by decide +kernel
theorem dX7_init_4 : decode cX7_init 4 = .ok (.aload_n 0, 1) := by decide +kernel
theorem dX7_init_5 : decode cX7_init 5 = .ok (.sipush 474, 3) := by decide +kernel
theorem dX7_init_8 : decode cX7_init 8 = .ok (.newarray .int, 2) := by decide +kernel
theorem dX7_init_10 : decode cX7_init 10 = .ok (.putfield 7, 3) := by decide +kernel
theorem dX7_init_13 : decode cX7_init 13 = .ok (.aload_n 0, 1) := by decide +kernel
theorem dX7_init_14 : decode cX7_init 14 = .ok (.sipush 474, 3) := by decide +kernel
theorem dX7_init_17 : decode cX7_init 17 = .ok (.newarray .int, 2) := by decide +kernel
theorem dX7_init_19 : decode cX7_init 19 = .ok (.putfield 13, 3) := by decide +kernel
theorem dX7_init_22 : decode cX7_init 22 = .ok (.aload_n 0, 1) := by decide +kernel
theorem dX7_init_23 : decode cX7_init 23 = .ok (.sipush 1896, 3) := by decide +kernel
theorem dX7_init_26 : decode cX7_init 26 = .ok (.newarray .int, 2) := by decide +kernel
theorem dX7_init_28 : decode cX7_init 28 = .ok (.putfield 16, 3) := by decide +kernel
theorem dX7_init_31 : decode cX7_init 31 = .ok (.aload_n 0, 1) := by decide +kernel
theorem dX7_init_32 : decode cX7_init 32 = .ok (.sipush 474, 3) := by decide +kernel
theorem dX7_init_35 : decode cX7_init 35 = .ok (.newarray .int, 2) := by decide +kernel
theorem dX7_init_37 : decode cX7_init 37 = .ok (.putfield 19, 3) := by decide +kernel
theorem dX7_init_40 : decode cX7_init 40 = .ok (.aload_n 0, 1) := by decide +kernel
theorem dX7_init_41 : decode cX7_init 41 = .ok (.bipush 80, 2) := by decide +kernel
theorem dX7_init_43 : decode cX7_init 43 = .ok (.newarray .int, 2) := by decide +kernel
theorem dX7_init_45 : decode cX7_init 45 = .ok (.putfield 22, 3) := by decide +kernel
theorem dX7_init_48 : decode cX7_init 48 = .ok (.aload_n 0, 1) := by decide +kernel
theorem dX7_init_49 : decode cX7_init 49 = .ok (.bipush 16, 2) := by decide +kernel
theorem dX7_init_51 : decode cX7_init 51 = .ok (.newarray .int, 2) := by decide +kernel
theorem dX7_init_53 : decode cX7_init 53 = .ok (.putfield 25, 3) := by decide +kernel
theorem dX7_init_56 : decode cX7_init 56 = .ok (.aload_n 0, 1) := by decide +kernel
theorem dX7_init_57 : decode cX7_init 57 = .ok (.bipush 30, 2) := by decide +kernel
theorem dX7_init_59 : decode cX7_init 59 = .ok (.newarray .int, 2) := by decide +kernel
theorem dX7_init_61 : decode cX7_init 61 = .ok (.putfield 28, 3) := by decide +kernel
theorem dX7_init_64 : decode cX7_init 64 = .ok (.aload_n 0, 1) := by decide +kernel
theorem dX7_init_65 : decode cX7_init 65 = .ok (.bipush 10, 2) := by decide +kernel
theorem dX7_init_67 : decode cX7_init 67 = .ok (.newarray .int, 2) := by decide +kernel
theorem dX7_init_69 : decode cX7_init 69 = .ok (.putfield 31, 3) := by decide +kernel
theorem dX7_init_72 : decode cX7_init 72 = .ok (.aload_n 0, 1) := by decide +kernel
theorem dX7_init_73 : decode cX7_init 73 = .ok (.bipush 10, 2) := by decide +kernel
theorem dX7_init_75 : decode cX7_init 75 = .ok (.newarray .int, 2) := by decide +kernel
theorem dX7_init_77 : decode cX7_init 77 = .ok (.putfield 34, 3) := by decide +kernel
theorem dX7_init_80 : decode cX7_init 80 = .ok (.aload_n 0, 1) := by decide +kernel
theorem dX7_init_81 : decode cX7_init 81 = .ok (.bipush 10, 2) := by decide +kernel
theorem dX7_init_83 : decode cX7_init 83 = .ok (.newarray .int, 2) := by decide +kernel
theorem dX7_init_85 : decode cX7_init 85 = .ok (.putfield 37, 3) := by decide +kernel
theorem dX7_init_88 : decode cX7_init 88 = .ok (.aload_n 0, 1) := by decide +kernel
theorem dX7_init_89 : decode cX7_init 89 = .ok (.bipush 64, 2) := by decide +kernel
theorem dX7_init_91 : decode cX7_init 91 = .ok (.newarray .int, 2) := by decide +kernel
theorem dX7_init_93 : decode cX7_init 93 = .ok (.putfield 40, 3) := by decide +kernel
theorem dX7_init_96 : decode cX7_init 96 = .ok (.aload_n 0, 1) := by decide +kernel
theorem dX7_init_97 : decode cX7_init 97 = .ok (.iconst 0, 1) := by decide +kernel
theorem dX7_init_98 : decode cX7_init 98 = .ok (.putfield 43, 3) := by decide +kernel
theorem dX7_init_101 : decode cX7_init 101 = .ok (.aload_n 0, 1) := by decide +kernel
theorem dX7_init_102 : decode cX7_init 102 = .ok (.bipush (-5), 2) := by decide +kernel
theorem dX7_init_104 : decode cX7_init 104 = .ok (.putfield 47, 3) := by decide +kernel
theorem dX7_init_107 : decode cX7_init 107 = .ok (.iconst 0, 1) := by decide +kernel
theorem dX7_init_108 : decode cX7_init 108 = .ok (.istore_n 1, 1) := by decide +kernel
theorem dX7_init_109 : decode cX7_init 109 = .ok (.iload_n 1, 1) := by decide +kernel
theorem dX7_init_110 : decode cX7_init 110 = .ok (.bipush 10, 2) := by decide +kernel
theorem dX7_init_112 : decode cX7_init 112 = .ok (.if_icmp .ge 16, 3) := by decide +kernel
theorem dX7_init_115 : decode cX7_init 115 = .ok (.aload_n 0, 1) := by decide +kernel
theorem dX7_init_116 : decode cX7_init 116 = .ok (.iload_n 1, 1) := by decide +kernel
theorem dX7_init_117 : decode cX7_init 117 = .ok (.iconst 0, 1) := by decide +kernel
theorem dX7_init_118 : decode cX7_init 118 = .ok (.iconst 1, 1) := by decide +kernel
theorem dX7_init_119 : decode cX7_init 119 = .ok (.invokevirtual 50, 3) := by decide +kernel
theorem dX7_init_122 : decode cX7_init 122 = .ok (.iinc 1 1, 3) := by decide +kernel
theorem dX7_init_125 : decode cX7_init 125 = .ok (.goto (-16), 3) := by decide +kernel
theorem dX7_init_128 : decode cX7_init 128 = .ok (.iconst 0, 1) := by decide +kernel
theorem dX7_init_129 : decode cX7_init 129 = .ok (.istore_n 1, 1) := by decide +kernel
theorem dX7_init_130 : decode cX7_init 130 = .ok (.iload_n 1, 1) := by decide +kernel
theorem dX7_init_131 : decode cX7_init 131 = .ok (.bipush 16, 2) := by decide +kernel
theorem dX7_init_133 : decode cX7_init 133 = .ok (.if_icmp .ge 26, 3) := by decide +kernel
theorem dX7_init_136 : decode cX7_init 136 = .ok (.aload_n 0, 1) := by decide +kernel
theorem dX7_init_137 : decode cX7_init 137 = .ok (.getfield 7, 3) := by decide +kernel
theorem dX7_init_140 : decode cX7_init 140 = .ok (.sipush 318, 3) := by decide +kernel
theorem dX7_init_143 : decode cX7_init 143 = .ok (.iconst 2, 1) := by decide +kernel
theorem dX7_init_144 : decode cX7_init 144 = .ok (.iload_n 1, 1) := by decide +kernel
theorem dX7_init_145 : decode cX7_init 145 = .ok (.imul, 1) := by decide +kernel
theorem dX7_init_146 : decode cX7_init 146 = .ok (.iadd, 1) := by decide +kernel
theorem dX7_init_147 : decode cX7_init 147 = .ok (.iconst 0, 1) := by decide +kernel
theorem dX7_init_148 : decode cX7_init 148 = .ok (.iadd, 1) := by decide +kernel
theorem dX7_init_149 : decode cX7_init 149 = .ok (.sipush 399, 3) := by decide +kernel
theorem dX7_init_152 : decode cX7_init 152 = .ok (.iastore, 1) := by decide +kernel
theorem dX7_init_153 : decode cX7_init 153 = .ok (.iinc 1 1, 3) := by decide +kernel
theorem dX7_init_156 : decode cX7_init 156 = .ok (.goto (-26), 3) := by decide +kernel
theorem dX7_init_159 : decode cX7_init 159 = .ok (.return_, 1) := by decide +kernel
theorem dX7_in_0 : decode cX7_in 0 = .ok (.iload_n 0, 1) := by decide +kernel
theorem dX7_in_1 : decode cX7_in 1 = .ok (.iload_n 1, 1) := by decide +kernel
theorem dX7_in_2 : decode cX7_in 2 = .ok (.if_icmp .lt 12, 3) := by decide +kernel
theorem dX7_in_5 : decode cX7_in 5 = .ok (.iload_n 0, 1) := by decide +kernel
theorem dX7_in_6 : decode cX7_in 6 = .ok (.iload_n 2, 1) := by decide +kernel
theorem dX7_in_7 : decode cX7_in 7 = .ok (.if_icmp .gt 7, 3) := by decide +kernel
theorem dX7_in_10 : decode cX7_in 10 = .ok (.iconst 1, 1) := by decide +kernel
theorem dX7_in_11 : decode cX7_in 11 = .ok (.goto 4, 3) := by decide +kernel
theorem dX7_in_14 : decode cX7_in 14 = .ok (.iconst 0, 1) := by decide +kernel
theorem dX7_in_15 : decode cX7_in 15 = .ok (.ireturn, 1) := by decide +kernel
set_option maxRecDepth 20000 in
theorem ggX7_isFloor_X7_in : GoodIn wsX7_isFloor wsX7_in := goodIn_r _ [4] (by decide +kernel) (by decide +kernel)
set_option maxRecDepth 20000 in
theorem gX7_isFloor_X7_in : GoodIn wsX7_isFloor (va_wsS RX7 54 yX7_in wsX7_in) := goodIn_app (goodIn_of _ (by decide +kernel)) ggX7_isFloor_X7_in
theorem dX7_isFloor_0 : decode cX7_isFloor 0 = .ok (.iload_n 0, 1) := by decide +kernel
theorem dX7_isFloor_1 : decode cX7_isFloor 1 = .ok (.iconst 0, 1) := by decide +kernel
theorem dX7_isFloor_2 : decode cX7_isFloor 2 = .ok (.bipush 9, 2) := by decide +kernel
theorem dX7_isFloor_4 : decode cX7_isFloor 4 = .ok (.invokestatic 54, 3) := by decide +kernel
theorem dX7_isFloor_7 : decode cX7_isFloor 7 = .ok (.ireturn, 1) := by decide +kernel
set_option maxRecDepth 20000 in
theorem ggX7_isPerson_X7_in : GoodIn wsX7_isPerson wsX7_in := goodIn_r _ [4] (by decide +kernel) (by decide +kernel)
set_option maxRecDepth 20000 in
theorem gX7_isPerson_X7_in : GoodIn wsX7_isPerson (va_wsS RX7 54 yX7_in wsX7_in) := goodIn_app (goodIn_of _ (by decide +kernel)) ggX7_isPerson_X7_in
theorem dX7_isPerson_0 : decode cX7_isPerson 0 = .ok (.iload_n 0, 1) := by decide +kernel
theorem dX7_isPerson_1 : decode cX7_isPerson 1 = .ok (.iconst 0, 1) := by decide +kernel
theorem dX7_isPerson_2 : decode cX7_isPerson 2 = .ok (.bipush 15, 2) := by decide +kernel
theorem dX7_isPerson_4 : decode cX7_isPerson 4 = .ok (.invokestatic 54, 3) := by decide +kernel
theorem dX7_isPerson_7 : decode cX7_isPerson 7 = .ok (.ireturn, 1) := by decide +kernel
set_option maxRecDepth 20000 in
theorem ggX7_isDay_X7_in : GoodIn wsX7_isDay wsX7_in := goodIn_r _ [4] (by decide +kernel) (by decide +kernel)
set_option maxRecDepth 20000 in
theorem gX7_isDay_X7_in : GoodIn wsX7_isDay (va_wsS RX7 54 yX7_in wsX7_in) := goodIn_app (goodIn_of _ (by decide +kernel)) ggX7_isDay_X7_in
theorem dX7_isDay_0 : decode cX7_isDay 0 = .ok (.iload_n 0, 1) := by decide +kernel
theorem dX7_isDay_1 : decode cX7_isDay 1 = .ok (.iconst 0, 1) := by decide +kernel
theorem dX7_isDay_2 : decode cX7_isDay 2 = .ok (.sipush 399, 3) := by decide +kernel
theorem dX7_isDay_5 : decode cX7_isDay 5 = .ok (.invokestatic 54, 3) := by decide +kernel
theorem dX7_isDay_8 : decode cX7_isDay 8 = .ok (.ireturn, 1) := by decide +kernel
theorem dX7_of_0 : decode cX7_of 0 = .ok (.aload_n 0, 1) := by decide +kernel
theorem dX7_of_1 : decode cX7_of 1 = .ok (.getfield 7, 3) := by decide +kernel
theorem dX7_of_4 : decode cX7_of 4 = .ok (.bipush 8, 2) := by decide +kernel
theorem dX7_of_6 : decode cX7_of 6 = .ok (.bipush 31, 2) := by decide +kernel
theorem dX7_of_8 : decode cX7_of 8 = .ok (.iload_n 1, 1) := by decide +kernel
theorem dX7_of_9 : decode cX7_of 9 = .ok (.imul, 1) := by decide +kernel
theorem dX7_of_10 : decode cX7_of 10 = .ok (.iadd, 1) := by decide +kernel
theorem dX7_of_11 : decode cX7_of 11 = .ok (.iload_n 2, 1) := by decide +kernel
theorem dX7_of_12 : decode cX7_of 12 = .ok (.iadd, 1) := by decide +kernel
theorem dX7_of_13 : decode cX7_of 13 = .ok (.iaload, 1) := by decide +kernel
theorem dX7_of_14 : decode cX7_of 14 = .ok (.ireturn, 1) := by decide +kernel
theorem dX7_lay_0 : decode cX7_lay 0 = .ok (.aload_n 0, 1) := by decide +kernel
theorem dX7_lay_1 : decode cX7_lay 1 = .ok (.getfield 7, 3) := by decide +kernel
theorem dX7_lay_4 : decode cX7_lay 4 = .ok (.bipush 8, 2) := by decide +kernel
theorem dX7_lay_6 : decode cX7_lay 6 = .ok (.bipush 31, 2) := by decide +kernel
theorem dX7_lay_8 : decode cX7_lay 8 = .ok (.iload_n 1, 1) := by decide +kernel
theorem dX7_lay_9 : decode cX7_lay 9 = .ok (.imul, 1) := by decide +kernel
theorem dX7_lay_10 : decode cX7_lay 10 = .ok (.iadd, 1) := by decide +kernel
theorem dX7_lay_11 : decode cX7_lay 11 = .ok (.iload_n 2, 1) := by decide +kernel
theorem dX7_lay_12 : decode cX7_lay 12 = .ok (.iadd, 1) := by decide +kernel
theorem dX7_lay_13 : decode cX7_lay 13 = .ok (.iload_n 3, 1) := by decide +kernel
theorem dX7_lay_14 : decode cX7_lay 14 = .ok (.iastore, 1) := by decide +kernel
theorem dX7_lay_15 : decode cX7_lay 15 = .ok (.return_, 1) := by decide +kernel
theorem dX7_ofLeave_0 : decode cX7_ofLeave 0 = .ok (.aload_n 0, 1) := by decide +kernel
theorem dX7_ofLeave_1 : decode cX7_ofLeave 1 = .ok (.getfield 7, 3) := by decide +kernel
theorem dX7_ofLeave_4 : decode cX7_ofLeave 4 = .ok (.sipush 350, 3) := by decide +kernel
theorem dX7_ofLeave_7 : decode cX7_ofLeave 7 = .ok (.iconst 3, 1) := by decide +kernel
theorem dX7_ofLeave_8 : decode cX7_ofLeave 8 = .ok (.iload_n 1, 1) := by decide +kernel
theorem dX7_ofLeave_9 : decode cX7_ofLeave 9 = .ok (.imul, 1) := by decide +kernel
theorem dX7_ofLeave_10 : decode cX7_ofLeave 10 = .ok (.iadd, 1) := by decide +kernel
theorem dX7_ofLeave_11 : decode cX7_ofLeave 11 = .ok (.iload_n 2, 1) := by decide +kernel
theorem dX7_ofLeave_12 : decode cX7_ofLeave 12 = .ok (.iadd, 1) := by decide +kernel
theorem dX7_ofLeave_13 : decode cX7_ofLeave 13 = .ok (.iaload, 1) := by decide +kernel
theorem dX7_ofLeave_14 : decode cX7_ofLeave 14 = .ok (.ireturn, 1) := by decide +kernel
theorem dX7_records_0 : decode cX7_records 0 = .ok (.aload_n 0, 1) := by decide +kernel
theorem dX7_records_1 : decode cX7_records 1 = .ok (.getfield 58, 3) := by decide +kernel
theorem dX7_records_4 : decode cX7_records 4 = .ok (.iconst 4, 1) := by decide +kernel
theorem dX7_records_5 : decode cX7_records 5 = .ok (.if_icmp .ne 44, 3) := by decide +kernel
theorem dX7_records_8 : decode cX7_records 8 = .ok (.iconst 0, 1) := by decide +kernel
theorem dX7_records_9 : decode cX7_records 9 = .ok (.istore_n 1, 1) := by decide +kernel
theorem dX7_records_10 : decode cX7_records 10 = .ok (.iload_n 1, 1) := by decide +kernel
theorem dX7_records_11 : decode cX7_records 11 = .ok (.sipush 1422, 3) := by decide +kernel
theorem dX7_records_14 : decode cX7_records 14 = .ok (.if_icmp .ge 25, 3) := by decide +kernel
theorem dX7_records_17 : decode cX7_records 17 = .ok (.aload_n 0, 1) := by decide +kernel
theorem dX7_records_18 : decode cX7_records 18 = .ok (.getfield 16, 3) := by decide +kernel
theorem dX7_records_21 : decode cX7_records 21 = .ok (.iload_n 1, 1) := by decide +kernel
theorem dX7_records_22 : decode cX7_records 22 = .ok (.aload_n 0, 1) := by decide +kernel
theorem dX7_records_23 : decode cX7_records 23 = .ok (.getfield 16, 3) := by decide +kernel
theorem dX7_records_26 : decode cX7_records 26 = .ok (.iload_n 1, 1) := by decide +kernel
theorem dX7_records_27 : decode cX7_records 27 = .ok (.sipush 474, 3) := by decide +kernel
theorem dX7_records_30 : decode cX7_records 30 = .ok (.iadd, 1) := by decide +kernel
theorem dX7_records_31 : decode cX7_records 31 = .ok (.iaload, 1) := by decide +kernel
theorem dX7_records_32 : decode cX7_records 32 = .ok (.iastore, 1) := by decide +kernel
theorem dX7_records_33 : decode cX7_records 33 = .ok (.iinc 1 1, 3) := by decide +kernel
theorem dX7_records_36 : decode cX7_records 36 = .ok (.goto (-26), 3) := by decide +kernel
theorem dX7_records_39 : decode cX7_records 39 = .ok (.aload_n 0, 1) := by decide +kernel
theorem dX7_records_40 : decode cX7_records 40 = .ok (.dup, 1) := by decide +kernel
theorem dX7_records_41 : decode cX7_records 41 = .ok (.getfield 58, 3) := by decide +kernel
theorem dX7_records_44 : decode cX7_records 44 = .ok (.iconst 1, 1) := by decide +kernel
theorem dX7_records_45 : decode cX7_records 45 = .ok (.isub, 1) := by decide +kernel
theorem dX7_records_46 : decode cX7_records 46 = .ok (.putfield 58, 3) := by decide +kernel
theorem dX7_records_49 : decode cX7_records 49 = .ok (.iconst 0, 1) := by decide +kernel
theorem dX7_records_50 : decode cX7_records 50 = .ok (.istore_n 1, 1) := by decide +kernel
theorem dX7_records_51 : decode cX7_records 51 = .ok (.iload_n 1, 1) := by decide +kernel
theorem dX7_records_52 : decode cX7_records 52 = .ok (.sipush 474, 3) := by decide +kernel
theorem dX7_records_55 : decode cX7_records 55 = .ok (.if_icmp .ge 30, 3) := by decide +kernel
theorem dX7_records_58 : decode cX7_records 58 = .ok (.aload_n 0, 1) := by decide +kernel
theorem dX7_records_59 : decode cX7_records 59 = .ok (.getfield 16, 3) := by decide +kernel
theorem dX7_records_62 : decode cX7_records 62 = .ok (.sipush 474, 3) := by decide +kernel
theorem dX7_records_65 : decode cX7_records 65 = .ok (.aload_n 0, 1) := by decide +kernel
theorem dX7_records_66 : decode cX7_records 66 = .ok (.getfield 58, 3) := by decide +kernel
theorem dX7_records_69 : decode cX7_records 69 = .ok (.imul, 1) := by decide +kernel
theorem dX7_records_70 : decode cX7_records 70 = .ok (.iload_n 1, 1) := by decide +kernel
theorem dX7_records_71 : decode cX7_records 71 = .ok (.iadd, 1) := by decide +kernel
theorem dX7_records_72 : decode cX7_records 72 = .ok (.aload_n 0, 1) := by decide +kernel
theorem dX7_records_73 : decode cX7_records 73 = .ok (.getfield 7, 3) := by decide +kernel
theorem dX7_records_76 : decode cX7_records 76 = .ok (.iload_n 1, 1) := by decide +kernel
theorem dX7_records_77 : decode cX7_records 77 = .ok (.iaload, 1) := by decide +kernel
theorem dX7_records_78 : decode cX7_records 78 = .ok (.iastore, 1) := by decide +kernel
theorem dX7_records_79 : decode cX7_records 79 = .ok (.iinc 1 1, 3) := by decide +kernel
theorem dX7_records_82 : decode cX7_records 82 = .ok (.goto (-31), 3) := by decide +kernel
theorem dX7_records_85 : decode cX7_records 85 = .ok (.aload_n 0, 1) := by decide +kernel
theorem dX7_records_86 : decode cX7_records 86 = .ok (.dup, 1) := by decide +kernel
theorem dX7_records_87 : decode cX7_records 87 = .ok (.getfield 58, 3) := by decide +kernel
theorem dX7_records_90 : decode cX7_records 90 = .ok (.iconst 1, 1) := by decide +kernel
theorem dX7_records_91 : decode cX7_records 91 = .ok (.iadd, 1) := by decide +kernel
theorem dX7_records_92 : decode cX7_records 92 = .ok (.putfield 58, 3) := by decide +kernel
theorem dX7_records_95 : decode cX7_records 95 = .ok (.return_, 1) := by decide +kernel
set_option maxRecDepth 20000 in
theorem ggX7_leaveOn_X7_ofLeave : GoodIn wsX7_leaveOn wsX7_ofLeave := goodIn_r _ [6, 1, 7, 8, 9, 10, 11, 12, 13, 14, 15, 16, 17, 18, 19, 20, 21, 22, 23, 24, 25, 26] (by decide +kernel) (by decide +kernel)
set_option maxRecDepth 20000 in
theorem gX7_leaveOn_X7_ofLeave : GoodIn wsX7_leaveOn (wsV RX7 61 RX7 yX7_ofLeave wsX7_ofLeave) := goodIn_app (goodIn_of _ (by decide +kernel)) ggX7_leaveOn_X7_ofLeave
theorem dX7_leaveOn_0 : decode cX7_leaveOn 0 = .ok (.iconst 0, 1) := by decide +kernel
theorem dX7_leaveOn_1 : decode cX7_leaveOn 1 = .ok (.istore_n 3, 1) := by decide +kernel
theorem dX7_leaveOn_2 : decode cX7_leaveOn 2 = .ok (.iload_n 3, 1) := by decide +kernel
theorem dX7_leaveOn_3 : decode cX7_leaveOn 3 = .ok (.aload_n 0, 1) := by decide +kernel
theorem dX7_leaveOn_4 : decode cX7_leaveOn 4 = .ok (.getfield 7, 3) := by decide +kernel
theorem dX7_leaveOn_7 : decode cX7_leaveOn 7 = .ok (.bipush 6, 2) := by decide +kernel
theorem dX7_leaveOn_9 : decode cX7_leaveOn 9 = .ok (.iaload, 1) := by decide +kernel
theorem dX7_leaveOn_10 : decode cX7_leaveOn 10 = .ok (.if_icmp .ge 41, 3) := by decide +kernel
theorem dX7_leaveOn_13 : decode cX7_leaveOn 13 = .ok (.aload_n 0, 1) := by decide +kernel
theorem dX7_leaveOn_14 : decode cX7_leaveOn 14 = .ok (.iload_n 3, 1) := by decide +kernel
theorem dX7_leaveOn_15 : decode cX7_leaveOn 15 = .ok (.iconst 0, 1) := by decide +kernel
theorem dX7_leaveOn_16 : decode cX7_leaveOn 16 = .ok (.invokevirtual 61, 3) := by decide +kernel
theorem dX7_leaveOn_19 : decode cX7_leaveOn 19 = .ok (.iload_n 1, 1) := by decide +kernel
theorem dX7_leaveOn_20 : decode cX7_leaveOn 20 = .ok (.if_icmp .ne 25, 3) := by decide +kernel
theorem dX7_leaveOn_23 : decode cX7_leaveOn 23 = .ok (.aload_n 0, 1) := by decide +kernel
theorem dX7_leaveOn_24 : decode cX7_leaveOn 24 = .ok (.iload_n 3, 1) := by decide +kernel
theorem dX7_leaveOn_25 : decode cX7_leaveOn 25 = .ok (.iconst 1, 1) := by decide +kernel
theorem dX7_leaveOn_26 : decode cX7_leaveOn 26 = .ok (.invokevirtual 61, 3) := by decide +kernel
theorem dX7_leaveOn_29 : decode cX7_leaveOn 29 = .ok (.iload_n 2, 1) := by decide +kernel
theorem dX7_leaveOn_30 : decode cX7_leaveOn 30 = .ok (.if_icmp .gt 15, 3) := by decide +kernel
theorem dX7_leaveOn_33 : decode cX7_leaveOn 33 = .ok (.aload_n 0, 1) := by decide +kernel
theorem dX7_leaveOn_34 : decode cX7_leaveOn 34 = .ok (.iload_n 3, 1) := by decide +kernel
theorem dX7_leaveOn_35 : decode cX7_leaveOn 35 = .ok (.iconst 2, 1) := by decide +kernel
theorem dX7_leaveOn_36 : decode cX7_leaveOn 36 = .ok (.invokevirtual 61, 3) := by decide +kernel
theorem dX7_leaveOn_39 : decode cX7_leaveOn 39 = .ok (.iload_n 2, 1) := by decide +kernel
theorem dX7_leaveOn_40 : decode cX7_leaveOn 40 = .ok (.if_icmp .lt 5, 3) := by decide +kernel
theorem dX7_leaveOn_43 : decode cX7_leaveOn 43 = .ok (.iload_n 3, 1) := by decide +kernel
theorem dX7_leaveOn_44 : decode cX7_leaveOn 44 = .ok (.ireturn, 1) := by decide +kernel
theorem dX7_leaveOn_45 : decode cX7_leaveOn 45 = .ok (.iinc 3 1, 3) := by decide +kernel
theorem dX7_leaveOn_48 : decode cX7_leaveOn 48 = .ok (.goto (-46), 3) := by decide +kernel
theorem dX7_leaveOn_51 : decode cX7_leaveOn 51 = .ok (.bipush (-5), 2) := by decide +kernel
theorem dX7_leaveOn_53 : decode cX7_leaveOn 53 = .ok (.ireturn, 1) := by decide +kernel
set_option maxRecDepth 20000 in
theorem ggX7_isReady_X7_leaveOn : GoodIn wsX7_isReady wsX7_leaveOn := goodIn_r _ [7, 1, 8, 9, 10, 6, 11, 12, 13, 14, 15, 16, 17, 18, 19, 20, 21, 22, 23, 24, 25, 26, 27, 28, 29, 30, 31] (by decide +kernel) (by decide +kernel)
set_option maxRecDepth 20000 in
theorem gX7_isReady_X7_leaveOn : GoodIn wsX7_isReady (wsV RX7 65 RX7 yX7_leaveOn wsX7_leaveOn) := goodIn_app (goodIn_of _ (by decide +kernel)) ggX7_isReady_X7_leaveOn
theorem dX7_isReady_0 : decode cX7_isReady 0 = .ok (.aload_n 0, 1) := by decide +kernel
theorem dX7_isReady_1 : decode cX7_isReady 1 = .ok (.getfield 7, 3) := by decide +kernel
theorem dX7_isReady_4 : decode cX7_isReady 4 = .ok (.sipush 318, 3) := by decide +kernel
theorem dX7_isReady_7 : decode cX7_isReady 7 = .ok (.iconst 2, 1) := by decide +kernel
theorem dX7_isReady_8 : decode cX7_isReady 8 = .ok (.iload_n 1, 1) := by decide +kernel
theorem dX7_isReady_9 : decode cX7_isReady 9 = .ok (.imul, 1) := by decide +kernel
theorem dX7_isReady_10 : decode cX7_isReady 10 = .ok (.iadd, 1) := by decide +kernel
theorem dX7_isReady_11 : decode cX7_isReady 11 = .ok (.iconst 0, 1) := by decide +kernel
theorem dX7_isReady_12 : decode cX7_isReady 12 = .ok (.iadd, 1) := by decide +kernel
theorem dX7_isReady_13 : decode cX7_isReady 13 = .ok (.iaload, 1) := by decide +kernel
theorem dX7_isReady_14 : decode cX7_isReady 14 = .ok (.iload_n 2, 1) := by decide +kernel
theorem dX7_isReady_15 : decode cX7_isReady 15 = .ok (.if_icmp .lt 29, 3) := by decide +kernel
theorem dX7_isReady_18 : decode cX7_isReady 18 = .ok (.aload_n 0, 1) := by decide +kernel
theorem dX7_isReady_19 : decode cX7_isReady 19 = .ok (.iload_n 1, 1) := by decide +kernel
theorem dX7_isReady_20 : decode cX7_isReady 20 = .ok (.iload_n 2, 1) := by decide +kernel
theorem dX7_isReady_21 : decode cX7_isReady 21 = .ok (.invokevirtual 65, 3) := by decide +kernel
theorem dX7_isReady_24 : decode cX7_isReady 24 = .ok (.bipush (-5), 2) := by decide +kernel
theorem dX7_isReady_26 : decode cX7_isReady 26 = .ok (.if_icmp .ne 18, 3) := by decide +kernel
theorem dX7_isReady_29 : decode cX7_isReady 29 = .ok (.aload_n 0, 1) := by decide +kernel
theorem dX7_isReady_30 : decode cX7_isReady 30 = .ok (.getfield 25, 3) := by decide +kernel
theorem dX7_isReady_33 : decode cX7_isReady 33 = .ok (.iload_n 1, 1) := by decide +kernel
theorem dX7_isReady_34 : decode cX7_isReady 34 = .ok (.iaload, 1) := by decide +kernel
theorem dX7_isReady_35 : decode cX7_isReady 35 = .ok (.bipush (-5), 2) := by decide +kernel
theorem dX7_isReady_37 : decode cX7_isReady 37 = .ok (.if_icmp .ne 7, 3) := by decide +kernel
theorem dX7_isReady_40 : decode cX7_isReady 40 = .ok (.iconst 1, 1) := by decide +kernel
theorem dX7_isReady_41 : decode cX7_isReady 41 = .ok (.goto 4, 3) := by decide +kernel
theorem dX7_isReady_44 : decode cX7_isReady 44 = .ok (.iconst 0, 1) := by decide +kernel
theorem dX7_isReady_45 : decode cX7_isReady 45 = .ok (.ireturn, 1) := by decide +kernel
set_option maxRecDepth 20000 in
theorem ggX7_choosing_X7_of : GoodIn wsX7_choosing wsX7_of := goodIn_r _ [6, 1, 7, 8, 9, 10, 11, 12, 13, 14, 15, 16, 17, 18, 19, 20, 21, 22, 23, 24, 25, 26] (by decide +kernel) (by decide +kernel)
set_option maxRecDepth 20000 in
theorem gX7_choosing_X7_of : GoodIn wsX7_choosing (wsV RX7 68 RX7 yX7_of wsX7_of) := goodIn_app (goodIn_of _ (by decide +kernel)) ggX7_choosing_X7_of
theorem dX7_choosing_0 : decode cX7_choosing 0 = .ok (.aload_n 0, 1) := by decide +kernel
theorem dX7_choosing_1 : decode cX7_choosing 1 = .ok (.getfield 7, 3) := by decide +kernel
theorem dX7_choosing_4 : decode cX7_choosing 4 = .ok (.iconst 0, 1) := by decide +kernel
theorem dX7_choosing_5 : decode cX7_choosing 5 = .ok (.iaload, 1) := by decide +kernel
theorem dX7_choosing_6 : decode cX7_choosing 6 = .ok (.iconst 2, 1) := by decide +kernel
theorem dX7_choosing_7 : decode cX7_choosing 7 = .ok (.if_icmp .ge 21, 3) := by decide +kernel
theorem dX7_choosing_10 : decode cX7_choosing 10 = .ok (.aload_n 0, 1) := by decide +kernel
theorem dX7_choosing_11 : decode cX7_choosing 11 = .ok (.getfield 7, 3) := by decide +kernel
theorem dX7_choosing_14 : decode cX7_choosing 14 = .ok (.iconst 0, 1) := by decide +kernel
theorem dX7_choosing_15 : decode cX7_choosing 15 = .ok (.iaload, 1) := by decide +kernel
theorem dX7_choosing_16 : decode cX7_choosing 16 = .ok (.ifCond .ne 7, 3) := by decide +kernel
theorem dX7_choosing_19 : decode cX7_choosing 19 = .ok (.iload_n 1, 1) := by decide +kernel
theorem dX7_choosing_20 : decode cX7_choosing 20 = .ok (.goto 7, 3) := by decide +kernel
theorem dX7_choosing_23 : decode cX7_choosing 23 = .ok (.bipush 9, 2) := by decide +kernel
theorem dX7_choosing_25 : decode cX7_choosing 25 = .ok (.iload_n 1, 1) := by decide +kernel
theorem dX7_choosing_26 : decode cX7_choosing 26 = .ok (.isub, 1) := by decide +kernel
theorem dX7_choosing_27 : decode cX7_choosing 27 = .ok (.ireturn, 1) := by decide +kernel
theorem dX7_choosing_28 : decode cX7_choosing 28 = .ok (.iconst 0, 1) := by decide +kernel
theorem dX7_choosing_29 : decode cX7_choosing 29 = .ok (.istore_n 2, 1) := by decide +kernel
theorem dX7_choosing_30 : decode cX7_choosing 30 = .ok (.iload_n 2, 1) := by decide +kernel
theorem dX7_choosing_31 : decode cX7_choosing 31 = .ok (.bipush 10, 2) := by decide +kernel
theorem dX7_choosing_33 : decode cX7_choosing 33 = .ok (.if_icmp .ge 80, 3) := by decide +kernel
theorem dX7_choosing_36 : decode cX7_choosing 36 = .ok (.iconst 0, 1) := by decide +kernel
theorem dX7_choosing_37 : decode cX7_choosing 37 = .ok (.istore_n 3, 1) := by decide +kernel
theorem dX7_choosing_38 : decode cX7_choosing 38 = .ok (.iconst 0, 1) := by decide +kernel
theorem dX7_choosing_39 : decode cX7_choosing 39 = .ok (.istore 4, 2) := by decide +kernel
theorem dX7_choosing_41 : decode cX7_choosing 41 = .ok (.iload 4, 2) := by decide +kernel
theorem dX7_choosing_43 : decode cX7_choosing 43 = .ok (.bipush 10, 2) := by decide +kernel
theorem dX7_choosing_45 : decode cX7_choosing 45 = .ok (.if_icmp .ge 55, 3) := by decide +kernel
theorem dX7_choosing_48 : decode cX7_choosing 48 = .ok (.iload_n 3, 1) := by decide +kernel
theorem dX7_choosing_49 : decode cX7_choosing 49 = .ok (.aload_n 0, 1) := by decide +kernel
theorem dX7_choosing_50 : decode cX7_choosing 50 = .ok (.iload 4, 2) := by decide +kernel
theorem dX7_choosing_52 : decode cX7_choosing 52 = .ok (.iconst 1, 1) := by decide +kernel
theorem dX7_choosing_53 : decode cX7_choosing 53 = .ok (.invokevirtual 68, 3) := by decide +kernel
theorem dX7_choosing_56 : decode cX7_choosing 56 = .ok (.aload_n 0, 1) := by decide +kernel
theorem dX7_choosing_57 : decode cX7_choosing 57 = .ok (.iload_n 2, 1) := by decide +kernel
theorem dX7_choosing_58 : decode cX7_choosing 58 = .ok (.iconst 1, 1) := by decide +kernel
theorem dX7_choosing_59 : decode cX7_choosing 59 = .ok (.invokevirtual 68, 3) := by decide +kernel
theorem dX7_choosing_62 : decode cX7_choosing 62 = .ok (.if_icmp .lt 25, 3) := by decide +kernel
theorem dX7_choosing_65 : decode cX7_choosing 65 = .ok (.aload_n 0, 1) := by decide +kernel
theorem dX7_choosing_66 : decode cX7_choosing 66 = .ok (.iload 4, 2) := by decide +kernel
theorem dX7_choosing_68 : decode cX7_choosing 68 = .ok (.iconst 1, 1) := by decide +kernel
theorem dX7_choosing_69 : decode cX7_choosing 69 = .ok (.invokevirtual 68, 3) := by decide +kernel
theorem dX7_choosing_72 : decode cX7_choosing 72 = .ok (.aload_n 0, 1) := by decide +kernel
theorem dX7_choosing_73 : decode cX7_choosing 73 = .ok (.iload_n 2, 1) := by decide +kernel
theorem dX7_choosing_74 : decode cX7_choosing 74 = .ok (.iconst 1, 1) := by decide +kernel
theorem dX7_choosing_75 : decode cX7_choosing 75 = .ok (.invokevirtual 68, 3) := by decide +kernel
theorem dX7_choosing_78 : decode cX7_choosing 78 = .ok (.if_icmp .ne 13, 3) := by decide +kernel
theorem dX7_choosing_81 : decode cX7_choosing 81 = .ok (.iload 4, 2) := by decide +kernel
theorem dX7_choosing_83 : decode cX7_choosing 83 = .ok (.iload_n 2, 1) := by decide +kernel
theorem dX7_choosing_84 : decode cX7_choosing 84 = .ok (.if_icmp .ge 7, 3) := by decide +kernel
theorem dX7_choosing_87 : decode cX7_choosing 87 = .ok (.iconst 1, 1) := by decide +kernel
theorem dX7_choosing_88 : decode cX7_choosing 88 = .ok (.goto 4, 3) := by decide +kernel
theorem dX7_choosing_91 : decode cX7_choosing 91 = .ok (.iconst 0, 1) := by decide +kernel
theorem dX7_choosing_92 : decode cX7_choosing 92 = .ok (.iadd, 1) := by decide +kernel
theorem dX7_choosing_93 : decode cX7_choosing 93 = .ok (.istore_n 3, 1) := by decide +kernel
theorem dX7_choosing_94 : decode cX7_choosing 94 = .ok (.iinc 4 1, 3) := by decide +kernel
theorem dX7_choosing_97 : decode cX7_choosing 97 = .ok (.goto (-56), 3) := by decide +kernel
theorem dX7_choosing_100 : decode cX7_choosing 100 = .ok (.iload_n 3, 1) := by decide +kernel
theorem dX7_choosing_101 : decode cX7_choosing 101 = .ok (.iload_n 1, 1) := by decide +kernel
theorem dX7_choosing_102 : decode cX7_choosing 102 = .ok (.if_icmp .ne 5, 3) := by decide +kernel
theorem dX7_choosing_105 : decode cX7_choosing 105 = .ok (.iload_n 2, 1) := by decide +kernel
theorem dX7_choosing_106 : decode cX7_choosing 106 = .ok (.ireturn, 1) := by decide +kernel
theorem dX7_choosing_107 : decode cX7_choosing 107 = .ok (.iinc 2 1, 3) := by decide +kernel
theorem dX7_choosing_110 : decode cX7_choosing 110 = .ok (.goto (-80), 3) := by decide +kernel
theorem dX7_choosing_113 : decode cX7_choosing 113 = .ok (.bipush (-5), 2) := by decide +kernel
theorem dX7_choosing_115 : decode cX7_choosing 115 = .ok (.ireturn, 1) := by decide +kernel
theorem dX7_takes_0 : decode cX7_takes 0 = .ok (.aload_n 0, 1) := by decide +kernel
theorem dX7_takes_1 : decode cX7_takes 1 = .ok (.getfield 25, 3) := by decide +kernel
theorem dX7_takes_4 : decode cX7_takes 4 = .ok (.iload_n 2, 1) := by decide +kernel
theorem dX7_takes_5 : decode cX7_takes 5 = .ok (.iload_n 1, 1) := by decide +kernel
theorem dX7_takes_6 : decode cX7_takes 6 = .ok (.iastore, 1) := by decide +kernel
theorem dX7_takes_7 : decode cX7_takes 7 = .ok (.aload_n 0, 1) := by decide +kernel
theorem dX7_takes_8 : decode cX7_takes 8 = .ok (.getfield 28, 3) := by decide +kernel
theorem dX7_takes_11 : decode cX7_takes 11 = .ok (.iconst 3, 1) := by decide +kernel
theorem dX7_takes_12 : decode cX7_takes 12 = .ok (.iload_n 1, 1) := by decide +kernel
theorem dX7_takes_13 : decode cX7_takes 13 = .ok (.imul, 1) := by decide +kernel
theorem dX7_takes_14 : decode cX7_takes 14 = .ok (.aload_n 0, 1) := by decide +kernel
theorem dX7_takes_15 : decode cX7_takes 15 = .ok (.getfield 31, 3) := by decide +kernel
theorem dX7_takes_18 : decode cX7_takes 18 = .ok (.iload_n 1, 1) := by decide +kernel
theorem dX7_takes_19 : decode cX7_takes 19 = .ok (.iaload, 1) := by decide +kernel
theorem dX7_takes_20 : decode cX7_takes 20 = .ok (.iadd, 1) := by decide +kernel
theorem dX7_takes_21 : decode cX7_takes 21 = .ok (.iload_n 2, 1) := by decide +kernel
theorem dX7_takes_22 : decode cX7_takes 22 = .ok (.iastore, 1) := by decide +kernel
theorem dX7_takes_23 : decode cX7_takes 23 = .ok (.aload_n 0, 1) := by decide +kernel
theorem dX7_takes_24 : decode cX7_takes 24 = .ok (.getfield 31, 3) := by decide +kernel
theorem dX7_takes_27 : decode cX7_takes 27 = .ok (.iload_n 1, 1) := by decide +kernel
theorem dX7_takes_28 : decode cX7_takes 28 = .ok (.dup2, 1) := by decide +kernel
theorem dX7_takes_29 : decode cX7_takes 29 = .ok (.iaload, 1) := by decide +kernel
theorem dX7_takes_30 : decode cX7_takes 30 = .ok (.iconst 1, 1) := by decide +kernel
theorem dX7_takes_31 : decode cX7_takes 31 = .ok (.iadd, 1) := by decide +kernel
theorem dX7_takes_32 : decode cX7_takes 32 = .ok (.iastore, 1) := by decide +kernel
theorem dX7_takes_33 : decode cX7_takes 33 = .ok (.return_, 1) := by decide +kernel
set_option maxRecDepth 20000 in
theorem ggX7_takesRow_X7_of : GoodIn wsX7_takesRow wsX7_of := goodIn_r _ [6, 7, 26, 27, 28, 29, 30, 31, 32, 33, 34, 35, 36, 37, 38, 39, 40, 41, 42, 43, 44, 45] (by decide +kernel) (by decide +kernel)
set_option maxRecDepth 20000 in
theorem gX7_takesRow_X7_of : GoodIn wsX7_takesRow (wsV RX7 68 RX7 yX7_of wsX7_of) := goodIn_app (goodIn_of _ (by decide +kernel)) ggX7_takesRow_X7_of
set_option maxRecDepth 20000 in
theorem ggX7_takesRow_X7_isReady : GoodIn wsX7_takesRow wsX7_isReady := goodIn_r _ [11, 7, 12, 13, 14, 15, 5, 16, 17, 18, 19, 20, 26, 27, 28, 29, 30, 31, 32, 33, 34, 35, 36, 37, 38, 39, 40, 41, 42, 43, 44, 45] (by decide +kernel) (by decide +kernel)
set_option maxRecDepth 20000 in
theorem gX7_takesRow_X7_isReady : GoodIn wsX7_takesRow (wsV RX7 71 RX7 yX7_isReady wsX7_isReady) := goodIn_app (goodIn_of _ (by decide +kernel)) ggX7_takesRow_X7_isReady
set_option maxRecDepth 20000 in
theorem ggX7_takesRow_X7_takes : GoodIn wsX7_takesRow wsX7_takes := goodIn_r _ [24, 12, 25, 1, 26, 27, 28, 29, 30, 31, 32, 33, 34, 35, 36, 37, 38, 39, 40, 41, 42, 43, 44, 45] (by decide +kernel) (by decide +kernel)
set_option maxRecDepth 20000 in
theorem gX7_takesRow_X7_takes : GoodIn wsX7_takesRow (wsV RX7 75 RX7 yX7_takes wsX7_takes) := goodIn_app (goodIn_of _ (by decide +kernel)) ggX7_takesRow_X7_takes
theorem dX7_takesRow_0 : decode cX7_takesRow 0 = .ok (.iconst 0, 1) := by decide +kernel
theorem dX7_takesRow_1 : decode cX7_takesRow 1 = .ok (.istore_n 3, 1) := by decide +kernel
theorem dX7_takesRow_2 : decode cX7_takesRow 2 = .ok (.iload_n 3, 1) := by decide +kernel
theorem dX7_takesRow_3 : decode cX7_takesRow 3 = .ok (.aload_n 0, 1) := by decide +kernel
theorem dX7_takesRow_4 : decode cX7_takesRow 4 = .ok (.iload_n 1, 1) := by decide +kernel
theorem dX7_takesRow_5 : decode cX7_takesRow 5 = .ok (.iconst 1, 1) := by decide +kernel
theorem dX7_takesRow_6 : decode cX7_takesRow 6 = .ok (.invokevirtual 68, 3) := by decide +kernel
theorem dX7_takesRow_9 : decode cX7_takesRow 9 = .ok (.if_icmp .ge 51, 3) := by decide +kernel
theorem dX7_takesRow_12 : decode cX7_takesRow 12 = .ok (.aload_n 0, 1) := by decide +kernel
theorem dX7_takesRow_13 : decode cX7_takesRow 13 = .ok (.iload_n 1, 1) := by decide +kernel
theorem dX7_takesRow_14 : decode cX7_takesRow 14 = .ok (.iconst 2, 1) := by decide +kernel
theorem dX7_takesRow_15 : decode cX7_takesRow 15 = .ok (.iload_n 3, 1) := by decide +kernel
theorem dX7_takesRow_16 : decode cX7_takesRow 16 = .ok (.iadd, 1) := by decide +kernel
theorem dX7_takesRow_17 : decode cX7_takesRow 17 = .ok (.invokevirtual 68, 3) := by decide +kernel
theorem dX7_takesRow_20 : decode cX7_takesRow 20 = .ok (.istore 4, 2) := by decide +kernel
theorem dX7_takesRow_22 : decode cX7_takesRow 22 = .ok (.aload_n 0, 1) := by decide +kernel
theorem dX7_takesRow_23 : decode cX7_takesRow 23 = .ok (.getfield 31, 3) := by decide +kernel
theorem dX7_takesRow_26 : decode cX7_takesRow 26 = .ok (.iload_n 1, 1) := by decide +kernel
theorem dX7_takesRow_27 : decode cX7_takesRow 27 = .ok (.iaload, 1) := by decide +kernel
theorem dX7_takesRow_28 : decode cX7_takesRow 28 = .ok (.aload_n 0, 1) := by decide +kernel
theorem dX7_takesRow_29 : decode cX7_takesRow 29 = .ok (.iload_n 1, 1) := by decide +kernel
theorem dX7_takesRow_30 : decode cX7_takesRow 30 = .ok (.iconst 0, 1) := by decide +kernel
theorem dX7_takesRow_31 : decode cX7_takesRow 31 = .ok (.invokevirtual 68, 3) := by decide +kernel
theorem dX7_takesRow_34 : decode cX7_takesRow 34 = .ok (.if_icmp .ge 20, 3) := by decide +kernel
theorem dX7_takesRow_37 : decode cX7_takesRow 37 = .ok (.aload_n 0, 1) := by decide +kernel
theorem dX7_takesRow_38 : decode cX7_takesRow 38 = .ok (.iload 4, 2) := by decide +kernel
theorem dX7_takesRow_40 : decode cX7_takesRow 40 = .ok (.iload_n 2, 1) := by decide +kernel
theorem dX7_takesRow_41 : decode cX7_takesRow 41 = .ok (.invokevirtual 71, 3) := by decide +kernel
theorem dX7_takesRow_44 : decode cX7_takesRow 44 = .ok (.ifCond .eq 10, 3) := by decide +kernel
theorem dX7_takesRow_47 : decode cX7_takesRow 47 = .ok (.aload_n 0, 1) := by decide +kernel
theorem dX7_takesRow_48 : decode cX7_takesRow 48 = .ok (.iload_n 1, 1) := by decide +kernel
theorem dX7_takesRow_49 : decode cX7_takesRow 49 = .ok (.iload 4, 2) := by decide +kernel
theorem dX7_takesRow_51 : decode cX7_takesRow 51 = .ok (.invokevirtual 75, 3) := by decide +kernel
theorem dX7_takesRow_54 : decode cX7_takesRow 54 = .ok (.iinc 3 1, 3) := by decide +kernel
theorem dX7_takesRow_57 : decode cX7_takesRow 57 = .ok (.goto (-55), 3) := by decide +kernel
theorem dX7_takesRow_60 : decode cX7_takesRow 60 = .ok (.return_, 1) := by decide +kernel
set_option maxRecDepth 20000 in
theorem ggX7_takesHelp_X7_of : GoodIn wsX7_takesHelp wsX7_of := goodIn_r _ [7, 8, 27, 28, 29, 30, 31, 32, 33, 34, 35, 36, 37, 38, 39, 40, 41, 42, 43, 44, 45, 46] (by decide +kernel) (by decide +kernel)
set_option maxRecDepth 20000 in
theorem gX7_takesHelp_X7_of : GoodIn wsX7_takesHelp (wsV RX7 68 RX7 yX7_of wsX7_of) := goodIn_app (goodIn_of _ (by decide +kernel)) ggX7_takesHelp_X7_of
set_option maxRecDepth 20000 in
theorem ggX7_takesHelp_X7_isReady : GoodIn wsX7_takesHelp wsX7_isReady := goodIn_r _ [12, 8, 13, 14, 15, 16, 6, 17, 18, 19, 20, 21, 27, 28, 29, 30, 31, 32, 33, 34, 35, 36, 37, 38, 39, 40, 41, 42, 43, 44, 45, 46] (by decide +kernel) (by decide +kernel)
set_option maxRecDepth 20000 in
theorem gX7_takesHelp_X7_isReady : GoodIn wsX7_takesHelp (wsV RX7 71 RX7 yX7_isReady wsX7_isReady) := goodIn_app (goodIn_of _ (by decide +kernel)) ggX7_takesHelp_X7_isReady
set_option maxRecDepth 20000 in
theorem ggX7_takesHelp_X7_takes : GoodIn wsX7_takesHelp wsX7_takes := goodIn_r _ [25, 13, 26, 1, 27, 28, 29, 30, 31, 32, 33, 34, 35, 36, 37, 38, 39, 40, 41, 42, 43, 44, 45, 46] (by decide +kernel) (by decide +kernel)
set_option maxRecDepth 20000 in
theorem gX7_takesHelp_X7_takes : GoodIn wsX7_takesHelp (wsV RX7 75 RX7 yX7_takes wsX7_takes) := goodIn_app (goodIn_of _ (by decide +kernel)) ggX7_takesHelp_X7_takes
theorem dX7_takesHelp_0 : decode cX7_takesHelp 0 = .ok (.iconst 0, 1) := by decide +kernel
theorem dX7_takesHelp_1 : decode cX7_takesHelp 1 = .ok (.istore_n 3, 1) := by decide +kernel
theorem dX7_takesHelp_2 : decode cX7_takesHelp 2 = .ok (.iload_n 3, 1) := by decide +kernel
theorem dX7_takesHelp_3 : decode cX7_takesHelp 3 = .ok (.bipush 16, 2) := by decide +kernel
theorem dX7_takesHelp_5 : decode cX7_takesHelp 5 = .ok (.if_icmp .ge 49, 3) := by decide +kernel
theorem dX7_takesHelp_8 : decode cX7_takesHelp 8 = .ok (.aload_n 0, 1) := by decide +kernel
theorem dX7_takesHelp_9 : decode cX7_takesHelp 9 = .ok (.getfield 31, 3) := by decide +kernel
theorem dX7_takesHelp_12 : decode cX7_takesHelp 12 = .ok (.iload_n 1, 1) := by decide +kernel
theorem dX7_takesHelp_13 : decode cX7_takesHelp 13 = .ok (.iaload, 1) := by decide +kernel
theorem dX7_takesHelp_14 : decode cX7_takesHelp 14 = .ok (.aload_n 0, 1) := by decide +kernel
theorem dX7_takesHelp_15 : decode cX7_takesHelp 15 = .ok (.iload_n 1, 1) := by decide +kernel
theorem dX7_takesHelp_16 : decode cX7_takesHelp 16 = .ok (.iconst 0, 1) := by decide +kernel
theorem dX7_takesHelp_17 : decode cX7_takesHelp 17 = .ok (.invokevirtual 68, 3) := by decide +kernel
theorem dX7_takesHelp_20 : decode cX7_takesHelp 20 = .ok (.if_icmp .ge 28, 3) := by decide +kernel
theorem dX7_takesHelp_23 : decode cX7_takesHelp 23 = .ok (.aload_n 0, 1) := by decide +kernel
theorem dX7_takesHelp_24 : decode cX7_takesHelp 24 = .ok (.iload_n 3, 1) := by decide +kernel
theorem dX7_takesHelp_25 : decode cX7_takesHelp 25 = .ok (.iload_n 2, 1) := by decide +kernel
theorem dX7_takesHelp_26 : decode cX7_takesHelp 26 = .ok (.invokevirtual 71, 3) := by decide +kernel
theorem dX7_takesHelp_29 : decode cX7_takesHelp 29 = .ok (.ifCond .eq 19, 3) := by decide +kernel
theorem dX7_takesHelp_32 : decode cX7_takesHelp 32 = .ok (.aload_n 0, 1) := by decide +kernel
theorem dX7_takesHelp_33 : decode cX7_takesHelp 33 = .ok (.iload_n 1, 1) := by decide +kernel
theorem dX7_takesHelp_34 : decode cX7_takesHelp 34 = .ok (.iload_n 3, 1) := by decide +kernel
theorem dX7_takesHelp_35 : decode cX7_takesHelp 35 = .ok (.invokevirtual 75, 3) := by decide +kernel
theorem dX7_takesHelp_38 : decode cX7_takesHelp 38 = .ok (.aload_n 0, 1) := by decide +kernel
theorem dX7_takesHelp_39 : decode cX7_takesHelp 39 = .ok (.getfield 34, 3) := by decide +kernel
theorem dX7_takesHelp_42 : decode cX7_takesHelp 42 = .ok (.iload_n 1, 1) := by decide +kernel
theorem dX7_takesHelp_43 : decode cX7_takesHelp 43 = .ok (.dup2, 1) := by decide +kernel
theorem dX7_takesHelp_44 : decode cX7_takesHelp 44 = .ok (.iaload, 1) := by decide +kernel
theorem dX7_takesHelp_45 : decode cX7_takesHelp 45 = .ok (.iconst 1, 1) := by decide +kernel
theorem dX7_takesHelp_46 : decode cX7_takesHelp 46 = .ok (.iadd, 1) := by decide +kernel
theorem dX7_takesHelp_47 : decode cX7_takesHelp 47 = .ok (.iastore, 1) := by decide +kernel
theorem dX7_takesHelp_48 : decode cX7_takesHelp 48 = .ok (.iinc 3 1, 3) := by decide +kernel
theorem dX7_takesHelp_51 : decode cX7_takesHelp 51 = .ok (.goto (-49), 3) := by decide +kernel
theorem dX7_takesHelp_54 : decode cX7_takesHelp 54 = .ok (.return_, 1) := by decide +kernel
set_option maxRecDepth 20000 in
theorem ggX7_plans_X7_choosing : GoodIn wsX7_plans wsX7_choosing := goodIn_r _ [9, 4, 10, 11, 12, 8, 13, 39, 40, 41, 42, 43, 44, 45, 46, 47, 48, 49, 50, 51, 52, 53, 54, 55, 56, 57, 58] (by decide +kernel) (by decide +kernel)
set_option maxRecDepth 20000 in
theorem gX7_plans_X7_choosing : GoodIn wsX7_plans (wsV RX7 79 RX7 yX7_choosing wsX7_choosing) := goodIn_app (goodIn_of _ (by decide +kernel)) ggX7_plans_X7_choosing
set_option maxRecDepth 20000 in
theorem ggX7_plans_X7_takesRow : GoodIn wsX7_plans wsX7_takesRow := goodIn_r _ [17, 2, 10, 11, 12, 8, 13, 4, 18, 19, 20, 21, 1, 22, 23, 24, 25, 26, 27, 28, 29, 30, 31, 32, 33, 34, 39, 40, 41, 42, 43, 44, 45, 46, 47, 48, 49, 50, 51, 52, 53, 54, 55, 56, 57, 58] (by decide +kernel) (by decide +kernel)
set_option maxRecDepth 20000 in
theorem gX7_plans_X7_takesRow : GoodIn wsX7_plans (wsV RX7 83 RX7 yX7_takesRow wsX7_takesRow) := goodIn_app (goodIn_of _ (by decide +kernel)) ggX7_plans_X7_takesRow
set_option maxRecDepth 20000 in
theorem ggX7_plans_X7_takesHelp : GoodIn wsX7_plans wsX7_takesHelp := goodIn_r _ [38, 2, 3, 10, 11, 12, 8, 13, 4, 18, 19, 20, 21, 1, 22, 23, 24, 25, 26, 27, 28, 29, 30, 31, 32, 33, 34, 39, 40, 41, 42, 43, 44, 45, 46, 47, 48, 49, 50, 51, 52, 53, 54, 55, 56, 57, 58] (by decide +kernel) (by decide +kernel)
set_option maxRecDepth 20000 in
theorem gX7_plans_X7_takesHelp : GoodIn wsX7_plans (wsV RX7 86 RX7 yX7_takesHelp wsX7_takesHelp) := goodIn_app (goodIn_of _ (by decide +kernel)) ggX7_plans_X7_takesHelp
theorem dX7_plans_0 : decode cX7_plans 0 = .ok (.iconst 0, 1) := by decide +kernel
theorem dX7_plans_1 : decode cX7_plans 1 = .ok (.istore_n 2, 1) := by decide +kernel
theorem dX7_plans_2 : decode cX7_plans 2 = .ok (.iload_n 2, 1) := by decide +kernel
theorem dX7_plans_3 : decode cX7_plans 3 = .ok (.bipush 16, 2) := by decide +kernel
theorem dX7_plans_5 : decode cX7_plans 5 = .ok (.if_icmp .ge 17, 3) := by decide +kernel
theorem dX7_plans_8 : decode cX7_plans 8 = .ok (.aload_n 0, 1) := by decide +kernel
theorem dX7_plans_9 : decode cX7_plans 9 = .ok (.getfield 25, 3) := by decide +kernel
theorem dX7_plans_12 : decode cX7_plans 12 = .ok (.iload_n 2, 1) := by decide +kernel
theorem dX7_plans_13 : decode cX7_plans 13 = .ok (.bipush (-5), 2) := by decide +kernel
theorem dX7_plans_15 : decode cX7_plans 15 = .ok (.iastore, 1) := by decide +kernel
theorem dX7_plans_16 : decode cX7_plans 16 = .ok (.iinc 2 1, 3) := by decide +kernel
theorem dX7_plans_19 : decode cX7_plans 19 = .ok (.goto (-17), 3) := by decide +kernel
theorem dX7_plans_22 : decode cX7_plans 22 = .ok (.iconst 0, 1) := by decide +kernel
theorem dX7_plans_23 : decode cX7_plans 23 = .ok (.istore_n 2, 1) := by decide +kernel
theorem dX7_plans_24 : decode cX7_plans 24 = .ok (.iload_n 2, 1) := by decide +kernel
theorem dX7_plans_25 : decode cX7_plans 25 = .ok (.bipush 10, 2) := by decide +kernel
theorem dX7_plans_27 : decode cX7_plans 27 = .ok (.if_icmp .ge 23, 3) := by decide +kernel
theorem dX7_plans_30 : decode cX7_plans 30 = .ok (.aload_n 0, 1) := by decide +kernel
theorem dX7_plans_31 : decode cX7_plans 31 = .ok (.getfield 31, 3) := by decide +kernel
theorem dX7_plans_34 : decode cX7_plans 34 = .ok (.iload_n 2, 1) := by decide +kernel
theorem dX7_plans_35 : decode cX7_plans 35 = .ok (.iconst 0, 1) := by decide +kernel
theorem dX7_plans_36 : decode cX7_plans 36 = .ok (.iastore, 1) := by decide +kernel
theorem dX7_plans_37 : decode cX7_plans 37 = .ok (.aload_n 0, 1) := by decide +kernel
theorem dX7_plans_38 : decode cX7_plans 38 = .ok (.getfield 34, 3) := by decide +kernel
theorem dX7_plans_41 : decode cX7_plans 41 = .ok (.iload_n 2, 1) := by decide +kernel
theorem dX7_plans_42 : decode cX7_plans 42 = .ok (.iconst 0, 1) := by decide +kernel
theorem dX7_plans_43 : decode cX7_plans 43 = .ok (.iastore, 1) := by decide +kernel
theorem dX7_plans_44 : decode cX7_plans 44 = .ok (.iinc 2 1, 3) := by decide +kernel
theorem dX7_plans_47 : decode cX7_plans 47 = .ok (.goto (-23), 3) := by decide +kernel
theorem dX7_plans_50 : decode cX7_plans 50 = .ok (.iconst 0, 1) := by decide +kernel
theorem dX7_plans_51 : decode cX7_plans 51 = .ok (.istore_n 2, 1) := by decide +kernel
theorem dX7_plans_52 : decode cX7_plans 52 = .ok (.iload_n 2, 1) := by decide +kernel
theorem dX7_plans_53 : decode cX7_plans 53 = .ok (.bipush 10, 2) := by decide +kernel
theorem dX7_plans_55 : decode cX7_plans 55 = .ok (.if_icmp .ge 19, 3) := by decide +kernel
theorem dX7_plans_58 : decode cX7_plans 58 = .ok (.aload_n 0, 1) := by decide +kernel
theorem dX7_plans_59 : decode cX7_plans 59 = .ok (.aload_n 0, 1) := by decide +kernel
theorem dX7_plans_60 : decode cX7_plans 60 = .ok (.iload_n 2, 1) := by decide +kernel
theorem dX7_plans_61 : decode cX7_plans 61 = .ok (.invokevirtual 79, 3) := by decide +kernel
theorem dX7_plans_64 : decode cX7_plans 64 = .ok (.iload_n 1, 1) := by decide +kernel
theorem dX7_plans_65 : decode cX7_plans 65 = .ok (.invokevirtual 83, 3) := by decide +kernel
theorem dX7_plans_68 : decode cX7_plans 68 = .ok (.iinc 2 1, 3) := by decide +kernel
theorem dX7_plans_71 : decode cX7_plans 71 = .ok (.goto (-19), 3) := by decide +kernel
theorem dX7_plans_74 : decode cX7_plans 74 = .ok (.iconst 0, 1) := by decide +kernel
theorem dX7_plans_75 : decode cX7_plans 75 = .ok (.istore_n 2, 1) := by decide +kernel
theorem dX7_plans_76 : decode cX7_plans 76 = .ok (.iload_n 2, 1) := by decide +kernel
theorem dX7_plans_77 : decode cX7_plans 77 = .ok (.bipush 10, 2) := by decide +kernel
theorem dX7_plans_79 : decode cX7_plans 79 = .ok (.if_icmp .ge 29, 3) := by decide +kernel
theorem dX7_plans_82 : decode cX7_plans 82 = .ok (.aload_n 0, 1) := by decide +kernel
theorem dX7_plans_83 : decode cX7_plans 83 = .ok (.getfield 7, 3) := by decide +kernel
theorem dX7_plans_86 : decode cX7_plans 86 = .ok (.iconst 1, 1) := by decide +kernel
theorem dX7_plans_87 : decode cX7_plans 87 = .ok (.iaload, 1) := by decide +kernel
theorem dX7_plans_88 : decode cX7_plans 88 = .ok (.iconst 1, 1) := by decide +kernel
theorem dX7_plans_89 : decode cX7_plans 89 = .ok (.if_icmp .ne 19, 3) := by decide +kernel
theorem dX7_plans_92 : decode cX7_plans 92 = .ok (.aload_n 0, 1) := by decide +kernel
theorem dX7_plans_93 : decode cX7_plans 93 = .ok (.aload_n 0, 1) := by decide +kernel
theorem dX7_plans_94 : decode cX7_plans 94 = .ok (.iload_n 2, 1) := by decide +kernel
theorem dX7_plans_95 : decode cX7_plans 95 = .ok (.invokevirtual 79, 3) := by decide +kernel
theorem dX7_plans_98 : decode cX7_plans 98 = .ok (.iload_n 1, 1) := by decide +kernel
theorem dX7_plans_99 : decode cX7_plans 99 = .ok (.invokevirtual 86, 3) := by decide +kernel
theorem dX7_plans_102 : decode cX7_plans 102 = .ok (.iinc 2 1, 3) := by decide +kernel
theorem dX7_plans_105 : decode cX7_plans 105 = .ok (.goto (-29), 3) := by decide +kernel
theorem dX7_plans_108 : decode cX7_plans 108 = .ok (.return_, 1) := by decide +kernel
set_option maxRecDepth 20000 in
theorem ggX7_shortBy_X7_of : GoodIn wsX7_shortBy wsX7_of := goodIn_r _ [6, 7, 8, 9, 10, 11, 12, 13, 14, 15, 16, 17, 18, 19, 20, 21, 22, 23, 24, 25, 26, 27] (by decide +kernel) (by decide +kernel)
set_option maxRecDepth 20000 in
theorem gX7_shortBy_X7_of : GoodIn wsX7_shortBy (wsV RX7 68 RX7 yX7_of wsX7_of) := goodIn_app (goodIn_of _ (by decide +kernel)) ggX7_shortBy_X7_of
theorem dX7_shortBy_0 : decode cX7_shortBy 0 = .ok (.aload_n 0, 1) := by decide +kernel
theorem dX7_shortBy_1 : decode cX7_shortBy 1 = .ok (.iload_n 1, 1) := by decide +kernel
theorem dX7_shortBy_2 : decode cX7_shortBy 2 = .ok (.iconst 0, 1) := by decide +kernel
theorem dX7_shortBy_3 : decode cX7_shortBy 3 = .ok (.invokevirtual 68, 3) := by decide +kernel
theorem dX7_shortBy_6 : decode cX7_shortBy 6 = .ok (.aload_n 0, 1) := by decide +kernel
theorem dX7_shortBy_7 : decode cX7_shortBy 7 = .ok (.getfield 31, 3) := by decide +kernel
theorem dX7_shortBy_10 : decode cX7_shortBy 10 = .ok (.iload_n 1, 1) := by decide +kernel
theorem dX7_shortBy_11 : decode cX7_shortBy 11 = .ok (.iaload, 1) := by decide +kernel
theorem dX7_shortBy_12 : decode cX7_shortBy 12 = .ok (.isub, 1) := by decide +kernel
theorem dX7_shortBy_13 : decode cX7_shortBy 13 = .ok (.ireturn, 1) := by decide +kernel
set_option maxRecDepth 20000 in
theorem ggX7_placeIn_X7_of : GoodIn wsX7_placeIn wsX7_of := goodIn_r _ [5, 6, 7, 8, 9, 10, 11, 12, 13, 14, 15, 16, 17, 18, 19, 20, 21, 22, 23, 24, 25, 26] (by decide +kernel) (by decide +kernel)
set_option maxRecDepth 20000 in
theorem gX7_placeIn_X7_of : GoodIn wsX7_placeIn (wsV RX7 68 RX7 yX7_of wsX7_of) := goodIn_app (goodIn_of _ (by decide +kernel)) ggX7_placeIn_X7_of
theorem dX7_placeIn_0 : decode cX7_placeIn 0 = .ok (.iconst 0, 1) := by decide +kernel
theorem dX7_placeIn_1 : decode cX7_placeIn 1 = .ok (.istore_n 3, 1) := by decide +kernel
theorem dX7_placeIn_2 : decode cX7_placeIn 2 = .ok (.iload_n 3, 1) := by decide +kernel
theorem dX7_placeIn_3 : decode cX7_placeIn 3 = .ok (.aload_n 0, 1) := by decide +kernel
theorem dX7_placeIn_4 : decode cX7_placeIn 4 = .ok (.iload_n 1, 1) := by decide +kernel
theorem dX7_placeIn_5 : decode cX7_placeIn 5 = .ok (.iconst 1, 1) := by decide +kernel
theorem dX7_placeIn_6 : decode cX7_placeIn 6 = .ok (.invokevirtual 68, 3) := by decide +kernel
theorem dX7_placeIn_9 : decode cX7_placeIn 9 = .ok (.if_icmp .ge 23, 3) := by decide +kernel
theorem dX7_placeIn_12 : decode cX7_placeIn 12 = .ok (.aload_n 0, 1) := by decide +kernel
theorem dX7_placeIn_13 : decode cX7_placeIn 13 = .ok (.iload_n 1, 1) := by decide +kernel
theorem dX7_placeIn_14 : decode cX7_placeIn 14 = .ok (.iconst 2, 1) := by decide +kernel
theorem dX7_placeIn_15 : decode cX7_placeIn 15 = .ok (.iload_n 3, 1) := by decide +kernel
theorem dX7_placeIn_16 : decode cX7_placeIn 16 = .ok (.iadd, 1) := by decide +kernel
theorem dX7_placeIn_17 : decode cX7_placeIn 17 = .ok (.invokevirtual 68, 3) := by decide +kernel
theorem dX7_placeIn_20 : decode cX7_placeIn 20 = .ok (.iload_n 2, 1) := by decide +kernel
theorem dX7_placeIn_21 : decode cX7_placeIn 21 = .ok (.if_icmp .ne 5, 3) := by decide +kernel
theorem dX7_placeIn_24 : decode cX7_placeIn 24 = .ok (.iload_n 3, 1) := by decide +kernel
theorem dX7_placeIn_25 : decode cX7_placeIn 25 = .ok (.ireturn, 1) := by decide +kernel
theorem dX7_placeIn_26 : decode cX7_placeIn 26 = .ok (.iinc 3 1, 3) := by decide +kernel
theorem dX7_placeIn_29 : decode cX7_placeIn 29 = .ok (.goto (-27), 3) := by decide +kernel
theorem dX7_placeIn_32 : decode cX7_placeIn 32 = .ok (.bipush (-5), 2) := by decide +kernel
theorem dX7_placeIn_34 : decode cX7_placeIn 34 = .ok (.ireturn, 1) := by decide +kernel
set_option maxRecDepth 20000 in
theorem ggX7_refusesEnlisting_X7_isFloor : GoodIn wsX7_refusesEnlisting wsX7_isFloor := goodIn_r _ [4, 5, 6, 3, 7] (by decide +kernel) (by decide +kernel)
set_option maxRecDepth 20000 in
theorem gX7_refusesEnlisting_X7_isFloor : GoodIn wsX7_refusesEnlisting (va_wsS RX7 89 yX7_isFloor wsX7_isFloor) := goodIn_app (goodIn_of _ (by decide +kernel)) ggX7_refusesEnlisting_X7_isFloor
set_option maxRecDepth 20000 in
theorem ggX7_refusesEnlisting_X7_isPerson : GoodIn wsX7_refusesEnlisting wsX7_isPerson := goodIn_r _ [10, 5, 6, 3, 7] (by decide +kernel) (by decide +kernel)
set_option maxRecDepth 20000 in
theorem gX7_refusesEnlisting_X7_isPerson : GoodIn wsX7_refusesEnlisting (va_wsS RX7 93 yX7_isPerson wsX7_isPerson) := goodIn_app (goodIn_of _ (by decide +kernel)) ggX7_refusesEnlisting_X7_isPerson
set_option maxRecDepth 20000 in
theorem ggX7_refusesEnlisting_X7_placeIn : GoodIn wsX7_refusesEnlisting wsX7_placeIn := goodIn_r _ [14, 15, 16, 17, 3, 18, 19, 20, 21, 22, 23, 24, 25, 26, 27, 28, 29, 30, 31, 32, 33, 34, 35, 36, 37, 38, 39] (by decide +kernel) (by decide +kernel)
set_option maxRecDepth 20000 in
theorem gX7_refusesEnlisting_X7_placeIn : GoodIn wsX7_refusesEnlisting (wsV RX7 96 RX7 yX7_placeIn wsX7_placeIn) := goodIn_app (goodIn_of _ (by decide +kernel)) ggX7_refusesEnlisting_X7_placeIn
set_option maxRecDepth 20000 in
theorem ggX7_refusesEnlisting_X7_of : GoodIn wsX7_refusesEnlisting wsX7_of := goodIn_r _ [18, 19, 20, 21, 22, 23, 24, 25, 26, 27, 28, 29, 30, 31, 32, 33, 34, 35, 36, 37, 38, 39] (by decide +kernel) (by decide +kernel)
set_option maxRecDepth 20000 in
theorem gX7_refusesEnlisting_X7_of : GoodIn wsX7_refusesEnlisting (wsV RX7 68 RX7 yX7_of wsX7_of) := goodIn_app (goodIn_of _ (by decide +kernel)) ggX7_refusesEnlisting_X7_of
theorem dX7_refusesEnlisting_0 : decode cX7_refusesEnlisting 0 = .ok (.iload_n 1, 1) := by decide +kernel
theorem dX7_refusesEnlisting_1 : decode cX7_refusesEnlisting 1 = .ok (.invokestatic 89, 3) := by decide +kernel
theorem dX7_refusesEnlisting_4 : decode cX7_refusesEnlisting 4 = .ok (.ifCond .eq 10, 3) := by decide +kernel
theorem dX7_refusesEnlisting_7 : decode cX7_refusesEnlisting 7 = .ok (.iload_n 2, 1) := by decide +kernel
theorem dX7_refusesEnlisting_8 : decode cX7_refusesEnlisting 8 = .ok (.invokestatic 93, 3) := by decide +kernel
theorem dX7_refusesEnlisting_11 : decode cX7_refusesEnlisting 11 = .ok (.ifCond .ne 5, 3) := by decide +kernel
theorem dX7_refusesEnlisting_14 : decode cX7_refusesEnlisting 14 = .ok (.iconst (-1), 1) := by decide +kernel
theorem dX7_refusesEnlisting_15 : decode cX7_refusesEnlisting 15 = .ok (.ireturn, 1) := by decide +kernel
theorem dX7_refusesEnlisting_16 : decode cX7_refusesEnlisting 16 = .ok (.aload_n 0, 1) := by decide +kernel
theorem dX7_refusesEnlisting_17 : decode cX7_refusesEnlisting 17 = .ok (.iload_n 1, 1) := by decide +kernel
theorem dX7_refusesEnlisting_18 : decode cX7_refusesEnlisting 18 = .ok (.iload_n 2, 1) := by decide +kernel
theorem dX7_refusesEnlisting_19 : decode cX7_refusesEnlisting 19 = .ok (.invokevirtual 96, 3) := by decide +kernel
theorem dX7_refusesEnlisting_22 : decode cX7_refusesEnlisting 22 = .ok (.bipush (-5), 2) := by decide +kernel
theorem dX7_refusesEnlisting_24 : decode cX7_refusesEnlisting 24 = .ok (.if_icmp .eq 8, 3) := by decide +kernel
theorem dX7_refusesEnlisting_27 : decode cX7_refusesEnlisting 27 = .ok (.bipush (-4), 2) := by decide +kernel
theorem dX7_refusesEnlisting_29 : decode cX7_refusesEnlisting 29 = .ok (.goto 19, 3) := by decide +kernel
theorem dX7_refusesEnlisting_32 : decode cX7_refusesEnlisting 32 = .ok (.aload_n 0, 1) := by decide +kernel
theorem dX7_refusesEnlisting_33 : decode cX7_refusesEnlisting 33 = .ok (.iload_n 1, 1) := by decide +kernel
theorem dX7_refusesEnlisting_34 : decode cX7_refusesEnlisting 34 = .ok (.iconst 1, 1) := by decide +kernel
theorem dX7_refusesEnlisting_35 : decode cX7_refusesEnlisting 35 = .ok (.invokevirtual 68, 3) := by decide +kernel
theorem dX7_refusesEnlisting_38 : decode cX7_refusesEnlisting 38 = .ok (.iconst 5, 1) := by decide +kernel
theorem dX7_refusesEnlisting_39 : decode cX7_refusesEnlisting 39 = .ok (.if_icmp .ne 8, 3) := by decide +kernel
theorem dX7_refusesEnlisting_42 : decode cX7_refusesEnlisting 42 = .ok (.bipush (-3), 2) := by decide +kernel
theorem dX7_refusesEnlisting_44 : decode cX7_refusesEnlisting 44 = .ok (.goto 4, 3) := by decide +kernel
theorem dX7_refusesEnlisting_47 : decode cX7_refusesEnlisting 47 = .ok (.iconst 0, 1) := by decide +kernel
theorem dX7_refusesEnlisting_48 : decode cX7_refusesEnlisting 48 = .ok (.ireturn, 1) := by decide +kernel
set_option maxRecDepth 20000 in
theorem ggX7_enlists_X7_of : GoodIn wsX7_enlists wsX7_of := goodIn_r _ [5, 6, 11, 12, 13, 14, 15, 16, 17, 18, 19, 20, 21, 22, 23, 24, 25, 26, 27, 28, 29, 30] (by decide +kernel) (by decide +kernel)
set_option maxRecDepth 20000 in
theorem gX7_enlists_X7_of : GoodIn wsX7_enlists (wsV RX7 68 RX7 yX7_of wsX7_of) := goodIn_app (goodIn_of _ (by decide +kernel)) ggX7_enlists_X7_of
set_option maxRecDepth 20000 in
theorem ggX7_enlists_X7_lay : GoodIn wsX7_enlists wsX7_lay := goodIn_r _ [10, 6, 11, 12, 13, 14, 15, 16, 17, 18, 19, 20, 21, 22, 23, 24, 25, 26, 27, 28, 29, 30] (by decide +kernel) (by decide +kernel)
set_option maxRecDepth 20000 in
theorem gX7_enlists_X7_lay : GoodIn wsX7_enlists (wsV RX7 50 RX7 yX7_lay wsX7_lay) := goodIn_app (goodIn_of _ (by decide +kernel)) ggX7_enlists_X7_lay
theorem dX7_enlists_0 : decode cX7_enlists 0 = .ok (.aload_n 0, 1) := by decide +kernel
theorem dX7_enlists_1 : decode cX7_enlists 1 = .ok (.iload_n 1, 1) := by decide +kernel
theorem dX7_enlists_2 : decode cX7_enlists 2 = .ok (.iconst 2, 1) := by decide +kernel
theorem dX7_enlists_3 : decode cX7_enlists 3 = .ok (.aload_n 0, 1) := by decide +kernel
theorem dX7_enlists_4 : decode cX7_enlists 4 = .ok (.iload_n 1, 1) := by decide +kernel
theorem dX7_enlists_5 : decode cX7_enlists 5 = .ok (.iconst 1, 1) := by decide +kernel
theorem dX7_enlists_6 : decode cX7_enlists 6 = .ok (.invokevirtual 68, 3) := by decide +kernel
theorem dX7_enlists_9 : decode cX7_enlists 9 = .ok (.iadd, 1) := by decide +kernel
theorem dX7_enlists_10 : decode cX7_enlists 10 = .ok (.iload_n 2, 1) := by decide +kernel
theorem dX7_enlists_11 : decode cX7_enlists 11 = .ok (.invokevirtual 50, 3) := by decide +kernel
theorem dX7_enlists_14 : decode cX7_enlists 14 = .ok (.aload_n 0, 1) := by decide +kernel
theorem dX7_enlists_15 : decode cX7_enlists 15 = .ok (.iload_n 1, 1) := by decide +kernel
theorem dX7_enlists_16 : decode cX7_enlists 16 = .ok (.iconst 1, 1) := by decide +kernel
theorem dX7_enlists_17 : decode cX7_enlists 17 = .ok (.aload_n 0, 1) := by decide +kernel
theorem dX7_enlists_18 : decode cX7_enlists 18 = .ok (.iload_n 1, 1) := by decide +kernel
theorem dX7_enlists_19 : decode cX7_enlists 19 = .ok (.iconst 1, 1) := by decide +kernel
theorem dX7_enlists_20 : decode cX7_enlists 20 = .ok (.invokevirtual 68, 3) := by decide +kernel
theorem dX7_enlists_23 : decode cX7_enlists 23 = .ok (.iconst 1, 1) := by decide +kernel
theorem dX7_enlists_24 : decode cX7_enlists 24 = .ok (.iadd, 1) := by decide +kernel
theorem dX7_enlists_25 : decode cX7_enlists 25 = .ok (.invokevirtual 50, 3) := by decide +kernel
theorem dX7_enlists_28 : decode cX7_enlists 28 = .ok (.aload_n 0, 1) := by decide +kernel
theorem dX7_enlists_29 : decode cX7_enlists 29 = .ok (.iload_n 1, 1) := by decide +kernel
theorem dX7_enlists_30 : decode cX7_enlists 30 = .ok (.iconst 1, 1) := by decide +kernel
theorem dX7_enlists_31 : decode cX7_enlists 31 = .ok (.invokevirtual 68, 3) := by decide +kernel
theorem dX7_enlists_34 : decode cX7_enlists 34 = .ok (.ireturn, 1) := by decide +kernel
set_option maxRecDepth 20000 in
theorem ggX7_enlist_X7_refusesEnlisting : GoodIn wsX7_enlist wsX7_refusesEnlisting := goodIn_r _ [6, 7, 8, 5, 9, 10, 11, 12, 13, 14, 15, 16, 17, 18, 19, 20, 21, 22, 23, 24, 39, 40, 41, 42, 43, 44, 45, 46, 47, 48, 49, 50, 51, 52, 53, 54, 55, 56, 57, 58] (by decide +kernel) (by decide +kernel)
set_option maxRecDepth 20000 in
theorem gX7_enlist_X7_refusesEnlisting : GoodIn wsX7_enlist (wsV RX7 99 RX7 yX7_refusesEnlisting wsX7_refusesEnlisting) := goodIn_app (goodIn_of _ (by decide +kernel)) ggX7_enlist_X7_refusesEnlisting
set_option maxRecDepth 20000 in
theorem ggX7_enlist_X7_records : GoodIn wsX7_enlist wsX7_records := goodIn_r _ [28, 29, 30, 24, 39, 40, 41, 42, 43, 44, 45, 46, 47, 48, 49, 50, 51, 52, 53, 54, 55, 56, 57, 58] (by decide +kernel) (by decide +kernel)
set_option maxRecDepth 20000 in
theorem gX7_enlist_X7_records : GoodIn wsX7_enlist (wsV RX7 102 RX7 yX7_records wsX7_records) := goodIn_app (goodIn_of _ (by decide +kernel)) ggX7_enlist_X7_records
set_option maxRecDepth 20000 in
theorem ggX7_enlist_X7_enlists : GoodIn wsX7_enlist wsX7_enlists := goodIn_r _ [34, 20, 21, 22, 5, 23, 24, 35, 36, 37, 38, 39, 40, 41, 42, 43, 44, 45, 46, 47, 48, 49, 50, 51, 52, 53, 54, 55, 56, 57, 58] (by decide +kernel) (by decide +kernel)
set_option maxRecDepth 20000 in
theorem gX7_enlist_X7_enlists : GoodIn wsX7_enlist (wsV RX7 105 RX7 yX7_enlists wsX7_enlists) := goodIn_app (goodIn_of _ (by decide +kernel)) ggX7_enlist_X7_enlists
theorem dX7_enlist_0 : decode cX7_enlist 0 = .ok (.aload_n 0, 1) := by decide +kernel
theorem dX7_enlist_1 : decode cX7_enlist 1 = .ok (.iconst 0, 1) := by decide +kernel
theorem dX7_enlist_2 : decode cX7_enlist 2 = .ok (.putfield 43, 3) := by decide +kernel
theorem dX7_enlist_5 : decode cX7_enlist 5 = .ok (.aload_n 0, 1) := by decide +kernel
theorem dX7_enlist_6 : decode cX7_enlist 6 = .ok (.iload_n 1, 1) := by decide +kernel
theorem dX7_enlist_7 : decode cX7_enlist 7 = .ok (.iload_n 2, 1) := by decide +kernel
theorem dX7_enlist_8 : decode cX7_enlist 8 = .ok (.invokevirtual 99, 3) := by decide +kernel
theorem dX7_enlist_11 : decode cX7_enlist 11 = .ok (.istore_n 3, 1) := by decide +kernel
theorem dX7_enlist_12 : decode cX7_enlist 12 = .ok (.iload_n 3, 1) := by decide +kernel
theorem dX7_enlist_13 : decode cX7_enlist 13 = .ok (.ifCond .eq 5, 3) := by decide +kernel
theorem dX7_enlist_16 : decode cX7_enlist 16 = .ok (.iload_n 3, 1) := by decide +kernel
theorem dX7_enlist_17 : decode cX7_enlist 17 = .ok (.ireturn, 1) := by decide +kernel
theorem dX7_enlist_18 : decode cX7_enlist 18 = .ok (.aload_n 0, 1) := by decide +kernel
theorem dX7_enlist_19 : decode cX7_enlist 19 = .ok (.invokevirtual 102, 3) := by decide +kernel
theorem dX7_enlist_22 : decode cX7_enlist 22 = .ok (.aload_n 0, 1) := by decide +kernel
theorem dX7_enlist_23 : decode cX7_enlist 23 = .ok (.iload_n 1, 1) := by decide +kernel
theorem dX7_enlist_24 : decode cX7_enlist 24 = .ok (.iload_n 2, 1) := by decide +kernel
theorem dX7_enlist_25 : decode cX7_enlist 25 = .ok (.invokevirtual 105, 3) := by decide +kernel
theorem dX7_enlist_28 : decode cX7_enlist 28 = .ok (.ireturn, 1) := by decide +kernel
set_option maxRecDepth 20000 in
theorem ggX7_strikes_X7_placeIn : GoodIn wsX7_strikes wsX7_placeIn := goodIn_r _ [5, 6, 7, 8, 4, 9, 10, 15, 16, 17, 18, 19, 20, 21, 22, 23, 24, 25, 26, 27, 28, 29, 30, 31, 32, 33, 34] (by decide +kernel) (by decide +kernel)
set_option maxRecDepth 20000 in
theorem gX7_strikes_X7_placeIn : GoodIn wsX7_strikes (wsV RX7 96 RX7 yX7_placeIn wsX7_placeIn) := goodIn_app (goodIn_of _ (by decide +kernel)) ggX7_strikes_X7_placeIn
set_option maxRecDepth 20000 in
theorem ggX7_strikes_X7_of : GoodIn wsX7_strikes wsX7_of := goodIn_r _ [9, 10, 15, 16, 17, 18, 19, 20, 21, 22, 23, 24, 25, 26, 27, 28, 29, 30, 31, 32, 33, 34] (by decide +kernel) (by decide +kernel)
set_option maxRecDepth 20000 in
theorem gX7_strikes_X7_of : GoodIn wsX7_strikes (wsV RX7 68 RX7 yX7_of wsX7_of) := goodIn_app (goodIn_of _ (by decide +kernel)) ggX7_strikes_X7_of
set_option maxRecDepth 20000 in
theorem ggX7_strikes_X7_lay : GoodIn wsX7_strikes wsX7_lay := goodIn_r _ [14, 10, 15, 16, 17, 18, 19, 20, 21, 22, 23, 24, 25, 26, 27, 28, 29, 30, 31, 32, 33, 34] (by decide +kernel) (by decide +kernel)
set_option maxRecDepth 20000 in
theorem gX7_strikes_X7_lay : GoodIn wsX7_strikes (wsV RX7 50 RX7 yX7_lay wsX7_lay) := goodIn_app (goodIn_of _ (by decide +kernel)) ggX7_strikes_X7_lay
theorem dX7_strikes_0 : decode cX7_strikes 0 = .ok (.aload_n 0, 1) := by decide +kernel
theorem dX7_strikes_1 : decode cX7_strikes 1 = .ok (.iload_n 1, 1) := by decide +kernel
theorem dX7_strikes_2 : decode cX7_strikes 2 = .ok (.iload_n 2, 1) := by decide +kernel
theorem dX7_strikes_3 : decode cX7_strikes 3 = .ok (.invokevirtual 96, 3) := by decide +kernel
theorem dX7_strikes_6 : decode cX7_strikes 6 = .ok (.istore_n 3, 1) := by decide +kernel
theorem dX7_strikes_7 : decode cX7_strikes 7 = .ok (.aload_n 0, 1) := by decide +kernel
theorem dX7_strikes_8 : decode cX7_strikes 8 = .ok (.iload_n 1, 1) := by decide +kernel
theorem dX7_strikes_9 : decode cX7_strikes 9 = .ok (.iconst 1, 1) := by decide +kernel
theorem dX7_strikes_10 : decode cX7_strikes 10 = .ok (.aload_n 0, 1) := by decide +kernel
theorem dX7_strikes_11 : decode cX7_strikes 11 = .ok (.iload_n 1, 1) := by decide +kernel
theorem dX7_strikes_12 : decode cX7_strikes 12 = .ok (.iconst 1, 1) := by decide +kernel
theorem dX7_strikes_13 : decode cX7_strikes 13 = .ok (.invokevirtual 68, 3) := by decide +kernel
theorem dX7_strikes_16 : decode cX7_strikes 16 = .ok (.iconst 1, 1) := by decide +kernel
theorem dX7_strikes_17 : decode cX7_strikes 17 = .ok (.isub, 1) := by decide +kernel
theorem dX7_strikes_18 : decode cX7_strikes 18 = .ok (.invokevirtual 50, 3) := by decide +kernel
theorem dX7_strikes_21 : decode cX7_strikes 21 = .ok (.iload_n 3, 1) := by decide +kernel
theorem dX7_strikes_22 : decode cX7_strikes 22 = .ok (.istore 4, 2) := by decide +kernel
theorem dX7_strikes_24 : decode cX7_strikes 24 = .ok (.iload 4, 2) := by decide +kernel
theorem dX7_strikes_26 : decode cX7_strikes 26 = .ok (.aload_n 0, 1) := by decide +kernel
theorem dX7_strikes_27 : decode cX7_strikes 27 = .ok (.iload_n 1, 1) := by decide +kernel
theorem dX7_strikes_28 : decode cX7_strikes 28 = .ok (.iconst 1, 1) := by decide +kernel
theorem dX7_strikes_29 : decode cX7_strikes 29 = .ok (.invokevirtual 68, 3) := by decide +kernel
theorem dX7_strikes_32 : decode cX7_strikes 32 = .ok (.if_icmp .ge 29, 3) := by decide +kernel
theorem dX7_strikes_35 : decode cX7_strikes 35 = .ok (.aload_n 0, 1) := by decide +kernel
theorem dX7_strikes_36 : decode cX7_strikes 36 = .ok (.iload_n 1, 1) := by decide +kernel
theorem dX7_strikes_37 : decode cX7_strikes 37 = .ok (.iconst 2, 1) := by decide +kernel
theorem dX7_strikes_38 : decode cX7_strikes 38 = .ok (.iload 4, 2) := by decide +kernel
theorem dX7_strikes_40 : decode cX7_strikes 40 = .ok (.iadd, 1) := by decide +kernel
theorem dX7_strikes_41 : decode cX7_strikes 41 = .ok (.aload_n 0, 1) := by decide +kernel
theorem dX7_strikes_42 : decode cX7_strikes 42 = .ok (.iload_n 1, 1) := by decide +kernel
theorem dX7_strikes_43 : decode cX7_strikes 43 = .ok (.iconst 2, 1) := by decide +kernel
theorem dX7_strikes_44 : decode cX7_strikes 44 = .ok (.iload 4, 2) := by decide +kernel
theorem dX7_strikes_46 : decode cX7_strikes 46 = .ok (.iadd, 1) := by decide +kernel
theorem dX7_strikes_47 : decode cX7_strikes 47 = .ok (.iconst 1, 1) := by decide +kernel
theorem dX7_strikes_48 : decode cX7_strikes 48 = .ok (.iadd, 1) := by decide +kernel
theorem dX7_strikes_49 : decode cX7_strikes 49 = .ok (.invokevirtual 68, 3) := by decide +kernel
theorem dX7_strikes_52 : decode cX7_strikes 52 = .ok (.invokevirtual 50, 3) := by decide +kernel
theorem dX7_strikes_55 : decode cX7_strikes 55 = .ok (.iinc 4 1, 3) := by decide +kernel
theorem dX7_strikes_58 : decode cX7_strikes 58 = .ok (.goto (-34), 3) := by decide +kernel
theorem dX7_strikes_61 : decode cX7_strikes 61 = .ok (.aload_n 0, 1) := by decide +kernel
theorem dX7_strikes_62 : decode cX7_strikes 62 = .ok (.iload_n 1, 1) := by decide +kernel
theorem dX7_strikes_63 : decode cX7_strikes 63 = .ok (.iconst 2, 1) := by decide +kernel
theorem dX7_strikes_64 : decode cX7_strikes 64 = .ok (.aload_n 0, 1) := by decide +kernel
theorem dX7_strikes_65 : decode cX7_strikes 65 = .ok (.iload_n 1, 1) := by decide +kernel
theorem dX7_strikes_66 : decode cX7_strikes 66 = .ok (.iconst 1, 1) := by decide +kernel
theorem dX7_strikes_67 : decode cX7_strikes 67 = .ok (.invokevirtual 68, 3) := by decide +kernel
theorem dX7_strikes_70 : decode cX7_strikes 70 = .ok (.iadd, 1) := by decide +kernel
theorem dX7_strikes_71 : decode cX7_strikes 71 = .ok (.iconst 0, 1) := by decide +kernel
theorem dX7_strikes_72 : decode cX7_strikes 72 = .ok (.invokevirtual 50, 3) := by decide +kernel
theorem dX7_strikes_75 : decode cX7_strikes 75 = .ok (.aload_n 0, 1) := by decide +kernel
theorem dX7_strikes_76 : decode cX7_strikes 76 = .ok (.iload_n 1, 1) := by decide +kernel
theorem dX7_strikes_77 : decode cX7_strikes 77 = .ok (.iconst 1, 1) := by decide +kernel
theorem dX7_strikes_78 : decode cX7_strikes 78 = .ok (.invokevirtual 68, 3) := by decide +kernel
theorem dX7_strikes_81 : decode cX7_strikes 81 = .ok (.ireturn, 1) := by decide +kernel
set_option maxRecDepth 20000 in
theorem ggX7_strike_X7_isFloor : GoodIn wsX7_strike wsX7_isFloor := goodIn_r _ [5, 6, 7, 4, 8] (by decide +kernel) (by decide +kernel)
set_option maxRecDepth 20000 in
theorem gX7_strike_X7_isFloor : GoodIn wsX7_strike (va_wsS RX7 89 yX7_isFloor wsX7_isFloor) := goodIn_app (goodIn_of _ (by decide +kernel)) ggX7_strike_X7_isFloor
set_option maxRecDepth 20000 in
theorem ggX7_strike_X7_isPerson : GoodIn wsX7_strike wsX7_isPerson := goodIn_r _ [11, 6, 7, 4, 8] (by decide +kernel) (by decide +kernel)
set_option maxRecDepth 20000 in
theorem gX7_strike_X7_isPerson : GoodIn wsX7_strike (va_wsS RX7 93 yX7_isPerson wsX7_isPerson) := goodIn_app (goodIn_of _ (by decide +kernel)) ggX7_strike_X7_isPerson
set_option maxRecDepth 20000 in
theorem ggX7_strike_X7_placeIn : GoodIn wsX7_strike wsX7_placeIn := goodIn_r _ [15, 16, 17, 18, 4, 19, 20, 35, 36, 37, 38, 39, 40, 41, 42, 43, 44, 45, 46, 47, 48, 49, 50, 51, 52, 53, 54] (by decide +kernel) (by decide +kernel)
set_option maxRecDepth 20000 in
theorem gX7_strike_X7_placeIn : GoodIn wsX7_strike (wsV RX7 96 RX7 yX7_placeIn wsX7_placeIn) := goodIn_app (goodIn_of _ (by decide +kernel)) ggX7_strike_X7_placeIn
set_option maxRecDepth 20000 in
theorem ggX7_strike_X7_records : GoodIn wsX7_strike wsX7_records := goodIn_r _ [24, 25, 26, 20, 35, 36, 37, 38, 39, 40, 41, 42, 43, 44, 45, 46, 47, 48, 49, 50, 51, 52, 53, 54] (by decide +kernel) (by decide +kernel)
set_option maxRecDepth 20000 in
theorem gX7_strike_X7_records : GoodIn wsX7_strike (wsV RX7 102 RX7 yX7_records wsX7_records) := goodIn_app (goodIn_of _ (by decide +kernel)) ggX7_strike_X7_records
set_option maxRecDepth 20000 in
theorem ggX7_strike_X7_strikes : GoodIn wsX7_strike wsX7_strikes := goodIn_r _ [30, 12, 13, 14, 4, 15, 16, 17, 18, 19, 20, 31, 32, 33, 34, 35, 36, 37, 38, 39, 40, 41, 42, 43, 44, 45, 46, 47, 48, 49, 50, 51, 52, 53, 54] (by decide +kernel) (by decide +kernel)
set_option maxRecDepth 20000 in
theorem gX7_strike_X7_strikes : GoodIn wsX7_strike (wsV RX7 108 RX7 yX7_strikes wsX7_strikes) := goodIn_app (goodIn_of _ (by decide +kernel)) ggX7_strike_X7_strikes
theorem dX7_strike_0 : decode cX7_strike 0 = .ok (.aload_n 0, 1) := by decide +kernel
theorem dX7_strike_1 : decode cX7_strike 1 = .ok (.iconst 0, 1) := by decide +kernel
theorem dX7_strike_2 : decode cX7_strike 2 = .ok (.putfield 43, 3) := by decide +kernel
theorem dX7_strike_5 : decode cX7_strike 5 = .ok (.iload_n 1, 1) := by decide +kernel
theorem dX7_strike_6 : decode cX7_strike 6 = .ok (.invokestatic 89, 3) := by decide +kernel
theorem dX7_strike_9 : decode cX7_strike 9 = .ok (.ifCond .eq 10, 3) := by decide +kernel
theorem dX7_strike_12 : decode cX7_strike 12 = .ok (.iload_n 2, 1) := by decide +kernel
theorem dX7_strike_13 : decode cX7_strike 13 = .ok (.invokestatic 93, 3) := by decide +kernel
theorem dX7_strike_16 : decode cX7_strike 16 = .ok (.ifCond .ne 5, 3) := by decide +kernel
theorem dX7_strike_19 : decode cX7_strike 19 = .ok (.iconst (-1), 1) := by decide +kernel
theorem dX7_strike_20 : decode cX7_strike 20 = .ok (.ireturn, 1) := by decide +kernel
theorem dX7_strike_21 : decode cX7_strike 21 = .ok (.aload_n 0, 1) := by decide +kernel
theorem dX7_strike_22 : decode cX7_strike 22 = .ok (.iload_n 1, 1) := by decide +kernel
theorem dX7_strike_23 : decode cX7_strike 23 = .ok (.iload_n 2, 1) := by decide +kernel
theorem dX7_strike_24 : decode cX7_strike 24 = .ok (.invokevirtual 96, 3) := by decide +kernel
theorem dX7_strike_27 : decode cX7_strike 27 = .ok (.bipush (-5), 2) := by decide +kernel
theorem dX7_strike_29 : decode cX7_strike 29 = .ok (.if_icmp .ne 6, 3) := by decide +kernel
theorem dX7_strike_32 : decode cX7_strike 32 = .ok (.bipush (-5), 2) := by decide +kernel
theorem dX7_strike_34 : decode cX7_strike 34 = .ok (.ireturn, 1) := by decide +kernel
theorem dX7_strike_35 : decode cX7_strike 35 = .ok (.aload_n 0, 1) := by decide +kernel
theorem dX7_strike_36 : decode cX7_strike 36 = .ok (.invokevirtual 102, 3) := by decide +kernel
theorem dX7_strike_39 : decode cX7_strike 39 = .ok (.aload_n 0, 1) := by decide +kernel
theorem dX7_strike_40 : decode cX7_strike 40 = .ok (.iload_n 1, 1) := by decide +kernel
theorem dX7_strike_41 : decode cX7_strike 41 = .ok (.iload_n 2, 1) := by decide +kernel
theorem dX7_strike_42 : decode cX7_strike 42 = .ok (.invokevirtual 108, 3) := by decide +kernel
theorem dX7_strike_45 : decode cX7_strike 45 = .ok (.ireturn, 1) := by decide +kernel
set_option maxRecDepth 20000 in
theorem ggX7_setNeed_X7_isFloor : GoodIn wsX7_setNeed wsX7_isFloor := goodIn_r _ [5, 6, 7, 4, 8] (by decide +kernel) (by decide +kernel)
set_option maxRecDepth 20000 in
theorem gX7_setNeed_X7_isFloor : GoodIn wsX7_setNeed (va_wsS RX7 89 yX7_isFloor wsX7_isFloor) := goodIn_app (goodIn_of _ (by decide +kernel)) ggX7_setNeed_X7_isFloor
set_option maxRecDepth 20000 in
theorem ggX7_setNeed_X7_in : GoodIn wsX7_setNeed wsX7_in := goodIn_r _ [8] (by decide +kernel) (by decide +kernel)
set_option maxRecDepth 20000 in
theorem gX7_setNeed_X7_in : GoodIn wsX7_setNeed (va_wsS RX7 54 yX7_in wsX7_in) := goodIn_app (goodIn_of _ (by decide +kernel)) ggX7_setNeed_X7_in
set_option maxRecDepth 20000 in
theorem ggX7_setNeed_X7_of : GoodIn wsX7_setNeed wsX7_of := goodIn_r _ [12, 13, 24, 25, 26, 27, 28, 29, 30, 31, 32, 33, 34, 35, 36, 37, 38, 39, 40, 41, 42, 43] (by decide +kernel) (by decide +kernel)
set_option maxRecDepth 20000 in
theorem gX7_setNeed_X7_of : GoodIn wsX7_setNeed (wsV RX7 68 RX7 yX7_of wsX7_of) := goodIn_app (goodIn_of _ (by decide +kernel)) ggX7_setNeed_X7_of
set_option maxRecDepth 20000 in
theorem ggX7_setNeed_X7_records : GoodIn wsX7_setNeed wsX7_records := goodIn_r _ [17, 18, 19, 13, 24, 25, 26, 27, 28, 29, 30, 31, 32, 33, 34, 35, 36, 37, 38, 39, 40, 41, 42, 43] (by decide +kernel) (by decide +kernel)
set_option maxRecDepth 20000 in
theorem gX7_setNeed_X7_records : GoodIn wsX7_setNeed (wsV RX7 102 RX7 yX7_records wsX7_records) := goodIn_app (goodIn_of _ (by decide +kernel)) ggX7_setNeed_X7_records
set_option maxRecDepth 20000 in
theorem ggX7_setNeed_X7_lay : GoodIn wsX7_setNeed wsX7_lay := goodIn_r _ [23, 13, 24, 25, 26, 27, 28, 29, 30, 31, 32, 33, 34, 35, 36, 37, 38, 39, 40, 41, 42, 43] (by decide +kernel) (by decide +kernel)
set_option maxRecDepth 20000 in
theorem gX7_setNeed_X7_lay : GoodIn wsX7_setNeed (wsV RX7 50 RX7 yX7_lay wsX7_lay) := goodIn_app (goodIn_of _ (by decide +kernel)) ggX7_setNeed_X7_lay
theorem dX7_setNeed_0 : decode cX7_setNeed 0 = .ok (.aload_n 0, 1) := by decide +kernel
theorem dX7_setNeed_1 : decode cX7_setNeed 1 = .ok (.iconst 0, 1) := by decide +kernel
theorem dX7_setNeed_2 : decode cX7_setNeed 2 = .ok (.putfield 43, 3) := by decide +kernel
theorem dX7_setNeed_5 : decode cX7_setNeed 5 = .ok (.iload_n 1, 1) := by decide +kernel
theorem dX7_setNeed_6 : decode cX7_setNeed 6 = .ok (.invokestatic 89, 3) := by decide +kernel
theorem dX7_setNeed_9 : decode cX7_setNeed 9 = .ok (.ifCond .ne 5, 3) := by decide +kernel
theorem dX7_setNeed_12 : decode cX7_setNeed 12 = .ok (.iconst (-1), 1) := by decide +kernel
theorem dX7_setNeed_13 : decode cX7_setNeed 13 = .ok (.ireturn, 1) := by decide +kernel
theorem dX7_setNeed_14 : decode cX7_setNeed 14 = .ok (.iload_n 2, 1) := by decide +kernel
theorem dX7_setNeed_15 : decode cX7_setNeed 15 = .ok (.iconst 0, 1) := by decide +kernel
theorem dX7_setNeed_16 : decode cX7_setNeed 16 = .ok (.iconst 3, 1) := by decide +kernel
theorem dX7_setNeed_17 : decode cX7_setNeed 17 = .ok (.invokestatic 54, 3) := by decide +kernel
theorem dX7_setNeed_20 : decode cX7_setNeed 20 = .ok (.ifCond .ne 6, 3) := by decide +kernel
theorem dX7_setNeed_23 : decode cX7_setNeed 23 = .ok (.bipush (-2), 2) := by decide +kernel
theorem dX7_setNeed_25 : decode cX7_setNeed 25 = .ok (.ireturn, 1) := by decide +kernel
theorem dX7_setNeed_26 : decode cX7_setNeed 26 = .ok (.aload_n 0, 1) := by decide +kernel
theorem dX7_setNeed_27 : decode cX7_setNeed 27 = .ok (.iload_n 1, 1) := by decide +kernel
theorem dX7_setNeed_28 : decode cX7_setNeed 28 = .ok (.iconst 0, 1) := by decide +kernel
theorem dX7_setNeed_29 : decode cX7_setNeed 29 = .ok (.invokevirtual 68, 3) := by decide +kernel
theorem dX7_setNeed_32 : decode cX7_setNeed 32 = .ok (.istore_n 3, 1) := by decide +kernel
theorem dX7_setNeed_33 : decode cX7_setNeed 33 = .ok (.iload_n 3, 1) := by decide +kernel
theorem dX7_setNeed_34 : decode cX7_setNeed 34 = .ok (.iload_n 2, 1) := by decide +kernel
theorem dX7_setNeed_35 : decode cX7_setNeed 35 = .ok (.if_icmp .ne 6, 3) := by decide +kernel
theorem dX7_setNeed_38 : decode cX7_setNeed 38 = .ok (.bipush (-5), 2) := by decide +kernel
theorem dX7_setNeed_40 : decode cX7_setNeed 40 = .ok (.ireturn, 1) := by decide +kernel
theorem dX7_setNeed_41 : decode cX7_setNeed 41 = .ok (.aload_n 0, 1) := by decide +kernel
theorem dX7_setNeed_42 : decode cX7_setNeed 42 = .ok (.invokevirtual 102, 3) := by decide +kernel
theorem dX7_setNeed_45 : decode cX7_setNeed 45 = .ok (.aload_n 0, 1) := by decide +kernel
theorem dX7_setNeed_46 : decode cX7_setNeed 46 = .ok (.iload_n 1, 1) := by decide +kernel
theorem dX7_setNeed_47 : decode cX7_setNeed 47 = .ok (.iconst 0, 1) := by decide +kernel
theorem dX7_setNeed_48 : decode cX7_setNeed 48 = .ok (.iload_n 2, 1) := by decide +kernel
theorem dX7_setNeed_49 : decode cX7_setNeed 49 = .ok (.invokevirtual 50, 3) := by decide +kernel
theorem dX7_setNeed_52 : decode cX7_setNeed 52 = .ok (.iload_n 3, 1) := by decide +kernel
theorem dX7_setNeed_53 : decode cX7_setNeed 53 = .ok (.ireturn, 1) := by decide +kernel
set_option maxRecDepth 20000 in
theorem ggX7_train_X7_isPerson : GoodIn wsX7_train wsX7_isPerson := goodIn_r _ [6, 7, 8, 5, 9] (by decide +kernel) (by decide +kernel)
set_option maxRecDepth 20000 in
theorem gX7_train_X7_isPerson : GoodIn wsX7_train (va_wsS RX7 93 yX7_isPerson wsX7_isPerson) := goodIn_app (goodIn_of _ (by decide +kernel)) ggX7_train_X7_isPerson
set_option maxRecDepth 20000 in
theorem ggX7_train_X7_isDay : GoodIn wsX7_train wsX7_isDay := goodIn_r _ [12, 7, 8, 5, 9] (by decide +kernel) (by decide +kernel)
set_option maxRecDepth 20000 in
theorem gX7_train_X7_isDay : GoodIn wsX7_train (va_wsS RX7 111 yX7_isDay wsX7_isDay) := goodIn_app (goodIn_of _ (by decide +kernel)) ggX7_train_X7_isDay
set_option maxRecDepth 20000 in
theorem ggX7_train_X7_records : GoodIn wsX7_train wsX7_records := goodIn_r _ [16, 17, 18, 2, 19, 20, 21, 22, 23, 24, 25, 26, 27, 28, 29, 30, 31, 32, 33, 34, 35, 36, 37, 38] (by decide +kernel) (by decide +kernel)
set_option maxRecDepth 20000 in
theorem gX7_train_X7_records : GoodIn wsX7_train (wsV RX7 102 RX7 yX7_records wsX7_records) := goodIn_app (goodIn_of _ (by decide +kernel)) ggX7_train_X7_records
theorem dX7_train_0 : decode cX7_train 0 = .ok (.aload_n 0, 1) := by decide +kernel
theorem dX7_train_1 : decode cX7_train 1 = .ok (.iconst 0, 1) := by decide +kernel
theorem dX7_train_2 : decode cX7_train 2 = .ok (.putfield 43, 3) := by decide +kernel
theorem dX7_train_5 : decode cX7_train 5 = .ok (.iload_n 1, 1) := by decide +kernel
theorem dX7_train_6 : decode cX7_train 6 = .ok (.invokestatic 93, 3) := by decide +kernel
theorem dX7_train_9 : decode cX7_train 9 = .ok (.ifCond .ne 5, 3) := by decide +kernel
theorem dX7_train_12 : decode cX7_train 12 = .ok (.iconst (-1), 1) := by decide +kernel
theorem dX7_train_13 : decode cX7_train 13 = .ok (.ireturn, 1) := by decide +kernel
theorem dX7_train_14 : decode cX7_train 14 = .ok (.iload_n 2, 1) := by decide +kernel
theorem dX7_train_15 : decode cX7_train 15 = .ok (.invokestatic 111, 3) := by decide +kernel
theorem dX7_train_18 : decode cX7_train 18 = .ok (.ifCond .ne 6, 3) := by decide +kernel
theorem dX7_train_21 : decode cX7_train 21 = .ok (.bipush (-2), 2) := by decide +kernel
theorem dX7_train_23 : decode cX7_train 23 = .ok (.ireturn, 1) := by decide +kernel
theorem dX7_train_24 : decode cX7_train 24 = .ok (.aload_n 0, 1) := by decide +kernel
theorem dX7_train_25 : decode cX7_train 25 = .ok (.getfield 7, 3) := by decide +kernel
theorem dX7_train_28 : decode cX7_train 28 = .ok (.sipush 318, 3) := by decide +kernel
theorem dX7_train_31 : decode cX7_train 31 = .ok (.iconst 2, 1) := by decide +kernel
theorem dX7_train_32 : decode cX7_train 32 = .ok (.iload_n 1, 1) := by decide +kernel
theorem dX7_train_33 : decode cX7_train 33 = .ok (.imul, 1) := by decide +kernel
theorem dX7_train_34 : decode cX7_train 34 = .ok (.iadd, 1) := by decide +kernel
theorem dX7_train_35 : decode cX7_train 35 = .ok (.iconst 0, 1) := by decide +kernel
theorem dX7_train_36 : decode cX7_train 36 = .ok (.iadd, 1) := by decide +kernel
theorem dX7_train_37 : decode cX7_train 37 = .ok (.iaload, 1) := by decide +kernel
theorem dX7_train_38 : decode cX7_train 38 = .ok (.istore_n 3, 1) := by decide +kernel
theorem dX7_train_39 : decode cX7_train 39 = .ok (.iload_n 3, 1) := by decide +kernel
theorem dX7_train_40 : decode cX7_train 40 = .ok (.iload_n 2, 1) := by decide +kernel
theorem dX7_train_41 : decode cX7_train 41 = .ok (.if_icmp .ne 6, 3) := by decide +kernel
theorem dX7_train_44 : decode cX7_train 44 = .ok (.bipush (-5), 2) := by decide +kernel
theorem dX7_train_46 : decode cX7_train 46 = .ok (.ireturn, 1) := by decide +kernel
theorem dX7_train_47 : decode cX7_train 47 = .ok (.aload_n 0, 1) := by decide +kernel
theorem dX7_train_48 : decode cX7_train 48 = .ok (.invokevirtual 102, 3) := by decide +kernel
theorem dX7_train_51 : decode cX7_train 51 = .ok (.aload_n 0, 1) := by decide +kernel
theorem dX7_train_52 : decode cX7_train 52 = .ok (.getfield 7, 3) := by decide +kernel
theorem dX7_train_55 : decode cX7_train 55 = .ok (.sipush 318, 3) := by decide +kernel
theorem dX7_train_58 : decode cX7_train 58 = .ok (.iconst 2, 1) := by decide +kernel
theorem dX7_train_59 : decode cX7_train 59 = .ok (.iload_n 1, 1) := by decide +kernel
theorem dX7_train_60 : decode cX7_train 60 = .ok (.imul, 1) := by decide +kernel
theorem dX7_train_61 : decode cX7_train 61 = .ok (.iadd, 1) := by decide +kernel
theorem dX7_train_62 : decode cX7_train 62 = .ok (.iconst 0, 1) := by decide +kernel
theorem dX7_train_63 : decode cX7_train 63 = .ok (.iadd, 1) := by decide +kernel
theorem dX7_train_64 : decode cX7_train 64 = .ok (.iload_n 2, 1) := by decide +kernel
theorem dX7_train_65 : decode cX7_train 65 = .ok (.iastore, 1) := by decide +kernel
theorem dX7_train_66 : decode cX7_train 66 = .ok (.iload_n 3, 1) := by decide +kernel
theorem dX7_train_67 : decode cX7_train 67 = .ok (.ireturn, 1) := by decide +kernel
set_option maxRecDepth 20000 in
theorem ggX7_set_X7_in : GoodIn wsX7_set wsX7_in := goodIn_r _ [6] (by decide +kernel) (by decide +kernel)
set_option maxRecDepth 20000 in
theorem gX7_set_X7_in : GoodIn wsX7_set (va_wsS RX7 54 yX7_in wsX7_in) := goodIn_app (goodIn_of _ (by decide +kernel)) ggX7_set_X7_in
set_option maxRecDepth 20000 in
theorem ggX7_set_X7_records : GoodIn wsX7_set wsX7_records := goodIn_r _ [10, 11, 12, 2, 13, 14, 15, 16, 17, 18, 19, 20, 21, 22, 23, 24, 25, 26, 27, 28, 29, 30, 31, 32] (by decide +kernel) (by decide +kernel)
set_option maxRecDepth 20000 in
theorem gX7_set_X7_records : GoodIn wsX7_set (wsV RX7 102 RX7 yX7_records wsX7_records) := goodIn_app (goodIn_of _ (by decide +kernel)) ggX7_set_X7_records
theorem dX7_set_0 : decode cX7_set 0 = .ok (.aload_n 0, 1) := by decide +kernel
theorem dX7_set_1 : decode cX7_set 1 = .ok (.iconst 0, 1) := by decide +kernel
theorem dX7_set_2 : decode cX7_set 2 = .ok (.putfield 43, 3) := by decide +kernel
theorem dX7_set_5 : decode cX7_set 5 = .ok (.iload_n 1, 1) := by decide +kernel
theorem dX7_set_6 : decode cX7_set 6 = .ok (.iconst 0, 1) := by decide +kernel
theorem dX7_set_7 : decode cX7_set 7 = .ok (.iconst 2, 1) := by decide +kernel
theorem dX7_set_8 : decode cX7_set 8 = .ok (.invokestatic 54, 3) := by decide +kernel
theorem dX7_set_11 : decode cX7_set 11 = .ok (.ifCond .ne 5, 3) := by decide +kernel
theorem dX7_set_14 : decode cX7_set 14 = .ok (.iconst (-1), 1) := by decide +kernel
theorem dX7_set_15 : decode cX7_set 15 = .ok (.ireturn, 1) := by decide +kernel
theorem dX7_set_16 : decode cX7_set 16 = .ok (.iload_n 2, 1) := by decide +kernel
theorem dX7_set_17 : decode cX7_set 17 = .ok (.iconst 0, 1) := by decide +kernel
theorem dX7_set_18 : decode cX7_set 18 = .ok (.iload_n 1, 1) := by decide +kernel
theorem dX7_set_19 : decode cX7_set 19 = .ok (.ifCond .ne 7, 3) := by decide +kernel
theorem dX7_set_22 : decode cX7_set 22 = .ok (.iconst 2, 1) := by decide +kernel
theorem dX7_set_23 : decode cX7_set 23 = .ok (.goto 4, 3) := by decide +kernel
theorem dX7_set_26 : decode cX7_set 26 = .ok (.iconst 1, 1) := by decide +kernel
theorem dX7_set_27 : decode cX7_set 27 = .ok (.invokestatic 54, 3) := by decide +kernel
theorem dX7_set_30 : decode cX7_set 30 = .ok (.ifCond .ne 6, 3) := by decide +kernel
theorem dX7_set_33 : decode cX7_set 33 = .ok (.bipush (-2), 2) := by decide +kernel
theorem dX7_set_35 : decode cX7_set 35 = .ok (.ireturn, 1) := by decide +kernel
theorem dX7_set_36 : decode cX7_set 36 = .ok (.aload_n 0, 1) := by decide +kernel
theorem dX7_set_37 : decode cX7_set 37 = .ok (.getfield 7, 3) := by decide +kernel
theorem dX7_set_40 : decode cX7_set 40 = .ok (.iload_n 1, 1) := by decide +kernel
theorem dX7_set_41 : decode cX7_set 41 = .ok (.iaload, 1) := by decide +kernel
theorem dX7_set_42 : decode cX7_set 42 = .ok (.istore_n 3, 1) := by decide +kernel
theorem dX7_set_43 : decode cX7_set 43 = .ok (.iload_n 3, 1) := by decide +kernel
theorem dX7_set_44 : decode cX7_set 44 = .ok (.iload_n 2, 1) := by decide +kernel
theorem dX7_set_45 : decode cX7_set 45 = .ok (.if_icmp .ne 6, 3) := by decide +kernel
theorem dX7_set_48 : decode cX7_set 48 = .ok (.bipush (-5), 2) := by decide +kernel
theorem dX7_set_50 : decode cX7_set 50 = .ok (.ireturn, 1) := by decide +kernel
theorem dX7_set_51 : decode cX7_set 51 = .ok (.aload_n 0, 1) := by decide +kernel
theorem dX7_set_52 : decode cX7_set 52 = .ok (.invokevirtual 102, 3) := by decide +kernel
theorem dX7_set_55 : decode cX7_set 55 = .ok (.aload_n 0, 1) := by decide +kernel
theorem dX7_set_56 : decode cX7_set 56 = .ok (.getfield 7, 3) := by decide +kernel
theorem dX7_set_59 : decode cX7_set 59 = .ok (.iload_n 1, 1) := by decide +kernel
theorem dX7_set_60 : decode cX7_set 60 = .ok (.iload_n 2, 1) := by decide +kernel
theorem dX7_set_61 : decode cX7_set 61 = .ok (.iastore, 1) := by decide +kernel
theorem dX7_set_62 : decode cX7_set 62 = .ok (.iload_n 3, 1) := by decide +kernel
theorem dX7_set_63 : decode cX7_set 63 = .ok (.ireturn, 1) := by decide +kernel
set_option maxRecDepth 20000 in
theorem ggX7_isAway_X7_ofLeave : GoodIn wsX7_isAway wsX7_ofLeave := goodIn_r _ [6, 1, 7, 8, 9, 10, 11, 12, 13, 14, 15, 16, 17, 18, 19, 20, 21, 22, 23, 24, 25, 26] (by decide +kernel) (by decide +kernel)
set_option maxRecDepth 20000 in
theorem gX7_isAway_X7_ofLeave : GoodIn wsX7_isAway (wsV RX7 61 RX7 yX7_ofLeave wsX7_ofLeave) := goodIn_app (goodIn_of _ (by decide +kernel)) ggX7_isAway_X7_ofLeave
theorem dX7_isAway_0 : decode cX7_isAway 0 = .ok (.iconst 0, 1) := by decide +kernel
theorem dX7_isAway_1 : decode cX7_isAway 1 = .ok (.istore 4, 2) := by decide +kernel
theorem dX7_isAway_3 : decode cX7_isAway 3 = .ok (.iconst 0, 1) := by decide +kernel
theorem dX7_isAway_4 : decode cX7_isAway 4 = .ok (.istore 5, 2) := by decide +kernel
theorem dX7_isAway_6 : decode cX7_isAway 6 = .ok (.iload 5, 2) := by decide +kernel
theorem dX7_isAway_8 : decode cX7_isAway 8 = .ok (.aload_n 0, 1) := by decide +kernel
theorem dX7_isAway_9 : decode cX7_isAway 9 = .ok (.getfield 7, 3) := by decide +kernel
theorem dX7_isAway_12 : decode cX7_isAway 12 = .ok (.bipush 6, 2) := by decide +kernel
theorem dX7_isAway_14 : decode cX7_isAway 14 = .ok (.iaload, 1) := by decide +kernel
theorem dX7_isAway_15 : decode cX7_isAway 15 = .ok (.if_icmp .ge 54, 3) := by decide +kernel
theorem dX7_isAway_18 : decode cX7_isAway 18 = .ok (.iload 4, 2) := by decide +kernel
theorem dX7_isAway_20 : decode cX7_isAway 20 = .ok (.ifCond .ne 36, 3) := by decide +kernel
theorem dX7_isAway_23 : decode cX7_isAway 23 = .ok (.aload_n 0, 1) := by decide +kernel
theorem dX7_isAway_24 : decode cX7_isAway 24 = .ok (.iload 5, 2) := by decide +kernel
