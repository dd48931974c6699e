theorem dX7_isAway_26 : decode cX7_isAway 26 = .ok (.iconst 0, 1) := by decide +kernel
theorem dX7_isAway_27 : decode cX7_isAway 27 = .ok (.invokevirtual 61, 3) := by decide +kernel
theorem dX7_isAway_30 : decode cX7_isAway 30 = .ok (.iload_n 1, 1) := by decide +kernel
theorem dX7_isAway_31 : decode cX7_isAway 31 = .ok (.if_icmp .ne 29, 3) := by decide +kernel
theorem dX7_isAway_34 : decode cX7_isAway 34 = .ok (.aload_n 0, 1) := by decide +kernel
theorem dX7_isAway_35 : decode cX7_isAway 35 = .ok (.iload 5, 2) := by decide +kernel
theorem dX7_isAway_37 : decode cX7_isAway 37 = .ok (.iconst 1, 1) := by decide +kernel
theorem dX7_isAway_38 : decode cX7_isAway 38 = .ok (.invokevirtual 61, 3) := by decide +kernel
theorem dX7_isAway_41 : decode cX7_isAway 41 = .ok (.iload_n 3, 1) := by decide +kernel
theorem dX7_isAway_42 : decode cX7_isAway 42 = .ok (.if_icmp .gt 18, 3) := by decide +kernel
theorem dX7_isAway_45 : decode cX7_isAway 45 = .ok (.aload_n 0, 1) := by decide +kernel
theorem dX7_isAway_46 : decode cX7_isAway 46 = .ok (.iload 5, 2) := by decide +kernel
theorem dX7_isAway_48 : decode cX7_isAway 48 = .ok (.iconst 2, 1) := by decide +kernel
theorem dX7_isAway_49 : decode cX7_isAway 49 = .ok (.invokevirtual 61, 3) := by decide +kernel
theorem dX7_isAway_52 : decode cX7_isAway 52 = .ok (.iload_n 2, 1) := by decide +kernel
theorem dX7_isAway_53 : decode cX7_isAway 53 = .ok (.if_icmp .lt 7, 3) := by decide +kernel
theorem dX7_isAway_56 : decode cX7_isAway 56 = .ok (.iconst 1, 1) := by decide +kernel
theorem dX7_isAway_57 : decode cX7_isAway 57 = .ok (.goto 4, 3) := by decide +kernel
theorem dX7_isAway_60 : decode cX7_isAway 60 = .ok (.iconst 0, 1) := by decide +kernel
theorem dX7_isAway_61 : decode cX7_isAway 61 = .ok (.istore 4, 2) := by decide +kernel
theorem dX7_isAway_63 : decode cX7_isAway 63 = .ok (.iinc 5 1, 3) := by decide +kernel
theorem dX7_isAway_66 : decode cX7_isAway 66 = .ok (.goto (-60), 3) := by decide +kernel
theorem dX7_isAway_69 : decode cX7_isAway 69 = .ok (.iload 4, 2) := by decide +kernel
theorem dX7_isAway_71 : decode cX7_isAway 71 = .ok (.ireturn, 1) := by decide +kernel
theorem dX7_grants_0 : decode cX7_grants 0 = .ok (.aload_n 0, 1) := by decide +kernel
theorem dX7_grants_1 : decode cX7_grants 1 = .ok (.getfield 7, 3) := by decide +kernel
theorem dX7_grants_4 : decode cX7_grants 4 = .ok (.sipush 350, 3) := by decide +kernel
theorem dX7_grants_7 : decode cX7_grants 7 = .ok (.iconst 3, 1) := by decide +kernel
theorem dX7_grants_8 : decode cX7_grants 8 = .ok (.aload_n 0, 1) := by decide +kernel
theorem dX7_grants_9 : decode cX7_grants 9 = .ok (.getfield 7, 3) := by decide +kernel
theorem dX7_grants_12 : decode cX7_grants 12 = .ok (.bipush 6, 2) := by decide +kernel
theorem dX7_grants_14 : decode cX7_grants 14 = .ok (.iaload, 1) := by decide +kernel
theorem dX7_grants_15 : decode cX7_grants 15 = .ok (.imul, 1) := by decide +kernel
theorem dX7_grants_16 : decode cX7_grants 16 = .ok (.iadd, 1) := by decide +kernel
theorem dX7_grants_17 : decode cX7_grants 17 = .ok (.iload_n 1, 1) := by decide +kernel
theorem dX7_grants_18 : decode cX7_grants 18 = .ok (.iastore, 1) := by decide +kernel
theorem dX7_grants_19 : decode cX7_grants 19 = .ok (.aload_n 0, 1) := by decide +kernel
theorem dX7_grants_20 : decode cX7_grants 20 = .ok (.getfield 7, 3) := by decide +kernel
theorem dX7_grants_23 : decode cX7_grants 23 = .ok (.sipush 350, 3) := by decide +kernel
theorem dX7_grants_26 : decode cX7_grants 26 = .ok (.iconst 3, 1) := by decide +kernel
theorem dX7_grants_27 : decode cX7_grants 27 = .ok (.aload_n 0, 1) := by decide +kernel
theorem dX7_grants_28 : decode cX7_grants 28 = .ok (.getfield 7, 3) := by decide +kernel
theorem dX7_grants_31 : decode cX7_grants 31 = .ok (.bipush 6, 2) := by decide +kernel
theorem dX7_grants_33 : decode cX7_grants 33 = .ok (.iaload, 1) := by decide +kernel
theorem dX7_grants_34 : decode cX7_grants 34 = .ok (.imul, 1) := by decide +kernel
theorem dX7_grants_35 : decode cX7_grants 35 = .ok (.iadd, 1) := by decide +kernel
theorem dX7_grants_36 : decode cX7_grants 36 = .ok (.iconst 1, 1) := by decide +kernel
theorem dX7_grants_37 : decode cX7_grants 37 = .ok (.iadd, 1) := by decide +kernel
theorem dX7_grants_38 : decode cX7_grants 38 = .ok (.iload_n 2, 1) := by decide +kernel
theorem dX7_grants_39 : decode cX7_grants 39 = .ok (.iastore, 1) := by decide +kernel
theorem dX7_grants_40 : decode cX7_grants 40 = .ok (.aload_n 0, 1) := by decide +kernel
theorem dX7_grants_41 : decode cX7_grants 41 = .ok (.getfield 7, 3) := by decide +kernel
theorem dX7_grants_44 : decode cX7_grants 44 = .ok (.sipush 350, 3) := by decide +kernel
theorem dX7_grants_47 : decode cX7_grants 47 = .ok (.iconst 3, 1) := by decide +kernel
theorem dX7_grants_48 : decode cX7_grants 48 = .ok (.aload_n 0, 1) := by decide +kernel
theorem dX7_grants_49 : decode cX7_grants 49 = .ok (.getfield 7, 3) := by decide +kernel
theorem dX7_grants_52 : decode cX7_grants 52 = .ok (.bipush 6, 2) := by decide +kernel
theorem dX7_grants_54 : decode cX7_grants 54 = .ok (.iaload, 1) := by decide +kernel
theorem dX7_grants_55 : decode cX7_grants 55 = .ok (.imul, 1) := by decide +kernel
theorem dX7_grants_56 : decode cX7_grants 56 = .ok (.iadd, 1) := by decide +kernel
theorem dX7_grants_57 : decode cX7_grants 57 = .ok (.iconst 2, 1) := by decide +kernel
theorem dX7_grants_58 : decode cX7_grants 58 = .ok (.iadd, 1) := by decide +kernel
theorem dX7_grants_59 : decode cX7_grants 59 = .ok (.iload_n 3, 1) := by decide +kernel
theorem dX7_grants_60 : decode cX7_grants 60 = .ok (.iastore, 1) := by decide +kernel
theorem dX7_grants_61 : decode cX7_grants 61 = .ok (.aload_n 0, 1) := by decide +kernel
theorem dX7_grants_62 : decode cX7_grants 62 = .ok (.getfield 7, 3) := by decide +kernel
theorem dX7_grants_65 : decode cX7_grants 65 = .ok (.bipush 6, 2) := by decide +kernel
theorem dX7_grants_67 : decode cX7_grants 67 = .ok (.dup2, 1) := by decide +kernel
theorem dX7_grants_68 : decode cX7_grants 68 = .ok (.iaload, 1) := by decide +kernel
theorem dX7_grants_69 : decode cX7_grants 69 = .ok (.iconst 1, 1) := by decide +kernel
theorem dX7_grants_70 : decode cX7_grants 70 = .ok (.iadd, 1) := by decide +kernel
theorem dX7_grants_71 : decode cX7_grants 71 = .ok (.iastore, 1) := by decide +kernel
theorem dX7_grants_72 : decode cX7_grants 72 = .ok (.return_, 1) := by decide +kernel
theorem dX7_drops_0 : decode cX7_drops 0 = .ok (.aload_n 0, 1) := by decide +kernel
theorem dX7_drops_1 : decode cX7_drops 1 = .ok (.getfield 7, 3) := by decide +kernel
theorem dX7_drops_4 : decode cX7_drops 4 = .ok (.bipush 6, 2) := by decide +kernel
theorem dX7_drops_6 : decode cX7_drops 6 = .ok (.dup2, 1) := by decide +kernel
theorem dX7_drops_7 : decode cX7_drops 7 = .ok (.iaload, 1) := by decide +kernel
theorem dX7_drops_8 : decode cX7_drops 8 = .ok (.iconst 1, 1) := by decide +kernel
theorem dX7_drops_9 : decode cX7_drops 9 = .ok (.isub, 1) := by decide +kernel
theorem dX7_drops_10 : decode cX7_drops 10 = .ok (.iastore, 1) := by decide +kernel
theorem dX7_drops_11 : decode cX7_drops 11 = .ok (.iconst 3, 1) := by decide +kernel
theorem dX7_drops_12 : decode cX7_drops 12 = .ok (.iload_n 1, 1) := by decide +kernel
theorem dX7_drops_13 : decode cX7_drops 13 = .ok (.imul, 1) := by decide +kernel
theorem dX7_drops_14 : decode cX7_drops 14 = .ok (.istore_n 2, 1) := by decide +kernel
theorem dX7_drops_15 : decode cX7_drops 15 = .ok (.iload_n 2, 1) := by decide +kernel
theorem dX7_drops_16 : decode cX7_drops 16 = .ok (.iconst 3, 1) := by decide +kernel
theorem dX7_drops_17 : decode cX7_drops 17 = .ok (.aload_n 0, 1) := by decide +kernel
theorem dX7_drops_18 : decode cX7_drops 18 = .ok (.getfield 7, 3) := by decide +kernel
theorem dX7_drops_21 : decode cX7_drops 21 = .ok (.bipush 6, 2) := by decide +kernel
theorem dX7_drops_23 : decode cX7_drops 23 = .ok (.iaload, 1) := by decide +kernel
theorem dX7_drops_24 : decode cX7_drops 24 = .ok (.imul, 1) := by decide +kernel
theorem dX7_drops_25 : decode cX7_drops 25 = .ok (.if_icmp .ge 31, 3) := by decide +kernel
theorem dX7_drops_28 : decode cX7_drops 28 = .ok (.aload_n 0, 1) := by decide +kernel
theorem dX7_drops_29 : decode cX7_drops 29 = .ok (.getfield 7, 3) := by decide +kernel
theorem dX7_drops_32 : decode cX7_drops 32 = .ok (.sipush 350, 3) := by decide +kernel
theorem dX7_drops_35 : decode cX7_drops 35 = .ok (.iload_n 2, 1) := by decide +kernel
theorem dX7_drops_36 : decode cX7_drops 36 = .ok (.iadd, 1) := by decide +kernel
theorem dX7_drops_37 : decode cX7_drops 37 = .ok (.aload_n 0, 1) := by decide +kernel
theorem dX7_drops_38 : decode cX7_drops 38 = .ok (.getfield 7, 3) := by decide +kernel
theorem dX7_drops_41 : decode cX7_drops 41 = .ok (.sipush 350, 3) := by decide +kernel
theorem dX7_drops_44 : decode cX7_drops 44 = .ok (.iload_n 2, 1) := by decide +kernel
theorem dX7_drops_45 : decode cX7_drops 45 = .ok (.iadd, 1) := by decide +kernel
theorem dX7_drops_46 : decode cX7_drops 46 = .ok (.iconst 3, 1) := by decide +kernel
theorem dX7_drops_47 : decode cX7_drops 47 = .ok (.iadd, 1) := by decide +kernel
theorem dX7_drops_48 : decode cX7_drops 48 = .ok (.iaload, 1) := by decide +kernel
theorem dX7_drops_49 : decode cX7_drops 49 = .ok (.iastore, 1) := by decide +kernel
theorem dX7_drops_50 : decode cX7_drops 50 = .ok (.iinc 2 1, 3) := by decide +kernel
theorem dX7_drops_53 : decode cX7_drops 53 = .ok (.goto (-38), 3) := by decide +kernel
theorem dX7_drops_56 : decode cX7_drops 56 = .ok (.iconst 0, 1) := by decide +kernel
theorem dX7_drops_57 : decode cX7_drops 57 = .ok (.istore_n 2, 1) := by decide +kernel
theorem dX7_drops_58 : decode cX7_drops 58 = .ok (.iload_n 2, 1) := by decide +kernel
theorem dX7_drops_59 : decode cX7_drops 59 = .ok (.iconst 3, 1) := by decide +kernel
theorem dX7_drops_60 : decode cX7_drops 60 = .ok (.if_icmp .ge 30, 3) := by decide +kernel
theorem dX7_drops_63 : decode cX7_drops 63 = .ok (.aload_n 0, 1) := by decide +kernel
theorem dX7_drops_64 : decode cX7_drops 64 = .ok (.getfield 7, 3) := by decide +kernel
theorem dX7_drops_67 : decode cX7_drops 67 = .ok (.sipush 350, 3) := by decide +kernel
theorem dX7_drops_70 : decode cX7_drops 70 = .ok (.iconst 3, 1) := by decide +kernel
theorem dX7_drops_71 : decode cX7_drops 71 = .ok (.aload_n 0, 1) := by decide +kernel
theorem dX7_drops_72 : decode cX7_drops 72 = .ok (.getfield 7, 3) := by decide +kernel
theorem dX7_drops_75 : decode cX7_drops 75 = .ok (.bipush 6, 2) := by decide +kernel
theorem dX7_drops_77 : decode cX7_drops 77 = .ok (.iaload, 1) := by decide +kernel
theorem dX7_drops_78 : decode cX7_drops 78 = .ok (.imul, 1) := by decide +kernel
theorem dX7_drops_79 : decode cX7_drops 79 = .ok (.iadd, 1) := by decide +kernel
theorem dX7_drops_80 : decode cX7_drops 80 = .ok (.iload_n 2, 1) := by decide +kernel
theorem dX7_drops_81 : decode cX7_drops 81 = .ok (.iadd, 1) := by decide +kernel
theorem dX7_drops_82 : decode cX7_drops 82 = .ok (.iconst 0, 1) := by decide +kernel
theorem dX7_drops_83 : decode cX7_drops 83 = .ok (.iastore, 1) := by decide +kernel
theorem dX7_drops_84 : decode cX7_drops 84 = .ok (.iinc 2 1, 3) := by decide +kernel
theorem dX7_drops_87 : decode cX7_drops 87 = .ok (.goto (-29), 3) := by decide +kernel
theorem dX7_drops_90 : decode cX7_drops 90 = .ok (.return_, 1) := by decide +kernel
set_option maxRecDepth 20000 in
theorem ggX7_shortByMore_X7_plans : GoodIn wsX7_shortByMore wsX7_plans := goodIn_r _ [7, 8, 9, 10, 2, 11, 12, 13, 6, 14, 15, 16, 17, 18, 19, 20, 21, 22, 23, 24, 25, 26, 27, 28, 29, 30, 31, 32, 33, 34, 35, 36, 37, 38, 39, 40, 41, 42, 43, 56, 57, 58, 59, 60, 61, 62, 63, 64, 65, 66, 67, 68, 69, 70, 71, 72, 73, 74, 75] (by decide +kernel) (by decide +kernel)
set_option maxRecDepth 20000 in
theorem gX7_shortByMore_X7_plans : GoodIn wsX7_shortByMore (wsV RX7 114 RX7 yX7_plans wsX7_plans) := goodIn_app (goodIn_of _ (by decide +kernel)) ggX7_shortByMore_X7_plans
set_option maxRecDepth 20000 in
theorem ggX7_shortByMore_X7_shortBy : GoodIn wsX7_shortByMore wsX7_shortBy := goodIn_r _ [47, 9, 15, 16, 17, 6, 18, 2, 56, 57, 58, 59, 60, 61, 62, 63, 64, 65, 66, 67, 68, 69, 70, 71, 72, 73, 74, 75] (by decide +kernel) (by decide +kernel)
set_option maxRecDepth 20000 in
theorem gX7_shortByMore_X7_shortBy : GoodIn wsX7_shortByMore (wsV RX7 118 RX7 yX7_shortBy wsX7_shortBy) := goodIn_app (goodIn_of _ (by decide +kernel)) ggX7_shortByMore_X7_shortBy
set_option maxRecDepth 20000 in
theorem ggX7_shortByMore_X7_grants : GoodIn wsX7_shortByMore wsX7_grants := goodIn_r _ [51, 2, 56, 57, 58, 59, 60, 61, 62, 63, 64, 65, 66, 67, 68, 69, 70, 71, 72, 73, 74, 75] (by decide +kernel) (by decide +kernel)
set_option maxRecDepth 20000 in
theorem gX7_shortByMore_X7_grants : GoodIn wsX7_shortByMore (wsV RX7 121 RX7 yX7_grants wsX7_grants) := goodIn_app (goodIn_of _ (by decide +kernel)) ggX7_shortByMore_X7_grants
set_option maxRecDepth 20000 in
theorem ggX7_shortByMore_X7_drops : GoodIn wsX7_shortByMore wsX7_drops := goodIn_r _ [55, 2, 56, 57, 58, 59, 60, 61, 62, 63, 64, 65, 66, 67, 68, 69, 70, 71, 72, 73, 74, 75] (by decide +kernel) (by decide +kernel)
set_option maxRecDepth 20000 in
theorem gX7_shortByMore_X7_drops : GoodIn wsX7_shortByMore (wsV RX7 124 RX7 yX7_drops wsX7_drops) := goodIn_app (goodIn_of _ (by decide +kernel)) ggX7_shortByMore_X7_drops
theorem dX7_shortByMore_0 : decode cX7_shortByMore 0 = .ok (.iconst 0, 1) := by decide +kernel
theorem dX7_shortByMore_1 : decode cX7_shortByMore 1 = .ok (.istore 4, 2) := by decide +kernel
theorem dX7_shortByMore_3 : decode cX7_shortByMore 3 = .ok (.iload_n 2, 1) := by decide +kernel
theorem dX7_shortByMore_4 : decode cX7_shortByMore 4 = .ok (.istore 5, 2) := by decide +kernel
theorem dX7_shortByMore_6 : decode cX7_shortByMore 6 = .ok (.iload 5, 2) := by decide +kernel
theorem dX7_shortByMore_8 : decode cX7_shortByMore 8 = .ok (.iload_n 3, 1) := by decide +kernel
theorem dX7_shortByMore_9 : decode cX7_shortByMore 9 = .ok (.if_icmp .gt 127, 3) := by decide +kernel
theorem dX7_shortByMore_12 : decode cX7_shortByMore 12 = .ok (.aload_n 0, 1) := by decide +kernel
theorem dX7_shortByMore_13 : decode cX7_shortByMore 13 = .ok (.iload 5, 2) := by decide +kernel
theorem dX7_shortByMore_15 : decode cX7_shortByMore 15 = .ok (.invokevirtual 114, 3) := by decide +kernel
theorem dX7_shortByMore_18 : decode cX7_shortByMore 18 = .ok (.iconst 0, 1) := by decide +kernel
theorem dX7_shortByMore_19 : decode cX7_shortByMore 19 = .ok (.istore 6, 2) := by decide +kernel
theorem dX7_shortByMore_21 : decode cX7_shortByMore 21 = .ok (.iload 6, 2) := by decide +kernel
theorem dX7_shortByMore_23 : decode cX7_shortByMore 23 = .ok (.bipush 10, 2) := by decide +kernel
theorem dX7_shortByMore_25 : decode cX7_shortByMore 25 = .ok (.if_icmp .ge 22, 3) := by decide +kernel
theorem dX7_shortByMore_28 : decode cX7_shortByMore 28 = .ok (.aload_n 0, 1) := by decide +kernel
theorem dX7_shortByMore_29 : decode cX7_shortByMore 29 = .ok (.getfield 37, 3) := by decide +kernel
theorem dX7_shortByMore_32 : decode cX7_shortByMore 32 = .ok (.iload 6, 2) := by decide +kernel
theorem dX7_shortByMore_34 : decode cX7_shortByMore 34 = .ok (.aload_n 0, 1) := by decide +kernel
theorem dX7_shortByMore_35 : decode cX7_shortByMore 35 = .ok (.iload 6, 2) := by decide +kernel
theorem dX7_shortByMore_37 : decode cX7_shortByMore 37 = .ok (.invokevirtual 118, 3) := by decide +kernel
theorem dX7_shortByMore_40 : decode cX7_shortByMore 40 = .ok (.iastore, 1) := by decide +kernel
theorem dX7_shortByMore_41 : decode cX7_shortByMore 41 = .ok (.iinc 6 1, 3) := by decide +kernel
theorem dX7_shortByMore_44 : decode cX7_shortByMore 44 = .ok (.goto (-23), 3) := by decide +kernel
theorem dX7_shortByMore_47 : decode cX7_shortByMore 47 = .ok (.aload_n 0, 1) := by decide +kernel
theorem dX7_shortByMore_48 : decode cX7_shortByMore 48 = .ok (.iload_n 1, 1) := by decide +kernel
theorem dX7_shortByMore_49 : decode cX7_shortByMore 49 = .ok (.iload 5, 2) := by decide +kernel
theorem dX7_shortByMore_51 : decode cX7_shortByMore 51 = .ok (.iload 5, 2) := by decide +kernel
theorem dX7_shortByMore_53 : decode cX7_shortByMore 53 = .ok (.invokevirtual 121, 3) := by decide +kernel
theorem dX7_shortByMore_56 : decode cX7_shortByMore 56 = .ok (.aload_n 0, 1) := by decide +kernel
theorem dX7_shortByMore_57 : decode cX7_shortByMore 57 = .ok (.iload 5, 2) := by decide +kernel
theorem dX7_shortByMore_59 : decode cX7_shortByMore 59 = .ok (.invokevirtual 114, 3) := by decide +kernel
theorem dX7_shortByMore_62 : decode cX7_shortByMore 62 = .ok (.iconst 0, 1) := by decide +kernel
theorem dX7_shortByMore_63 : decode cX7_shortByMore 63 = .ok (.istore 6, 2) := by decide +kernel
theorem dX7_shortByMore_65 : decode cX7_shortByMore 65 = .ok (.iload 6, 2) := by decide +kernel
theorem dX7_shortByMore_67 : decode cX7_shortByMore 67 = .ok (.bipush 10, 2) := by decide +kernel
theorem dX7_shortByMore_69 : decode cX7_shortByMore 69 = .ok (.if_icmp .ge 48, 3) := by decide +kernel
theorem dX7_shortByMore_72 : decode cX7_shortByMore 72 = .ok (.iload 4, 2) := by decide +kernel
theorem dX7_shortByMore_74 : decode cX7_shortByMore 74 = .ok (.aload_n 0, 1) := by decide +kernel
theorem dX7_shortByMore_75 : decode cX7_shortByMore 75 = .ok (.iload 6, 2) := by decide +kernel
theorem dX7_shortByMore_77 : decode cX7_shortByMore 77 = .ok (.invokevirtual 118, 3) := by decide +kernel
theorem dX7_shortByMore_80 : decode cX7_shortByMore 80 = .ok (.aload_n 0, 1) := by decide +kernel
theorem dX7_shortByMore_81 : decode cX7_shortByMore 81 = .ok (.getfield 37, 3) := by decide +kernel
theorem dX7_shortByMore_84 : decode cX7_shortByMore 84 = .ok (.iload 6, 2) := by decide +kernel
theorem dX7_shortByMore_86 : decode cX7_shortByMore 86 = .ok (.iaload, 1) := by decide +kernel
theorem dX7_shortByMore_87 : decode cX7_shortByMore 87 = .ok (.if_icmp .le 20, 3) := by decide +kernel
theorem dX7_shortByMore_90 : decode cX7_shortByMore 90 = .ok (.aload_n 0, 1) := by decide +kernel
theorem dX7_shortByMore_91 : decode cX7_shortByMore 91 = .ok (.iload 6, 2) := by decide +kernel
theorem dX7_shortByMore_93 : decode cX7_shortByMore 93 = .ok (.invokevirtual 118, 3) := by decide +kernel
theorem dX7_shortByMore_96 : decode cX7_shortByMore 96 = .ok (.aload_n 0, 1) := by decide +kernel
theorem dX7_shortByMore_97 : decode cX7_shortByMore 97 = .ok (.getfield 37, 3) := by decide +kernel
theorem dX7_shortByMore_100 : decode cX7_shortByMore 100 = .ok (.iload 6, 2) := by decide +kernel
theorem dX7_shortByMore_102 : decode cX7_shortByMore 102 = .ok (.iaload, 1) := by decide +kernel
theorem dX7_shortByMore_103 : decode cX7_shortByMore 103 = .ok (.isub, 1) := by decide +kernel
theorem dX7_shortByMore_104 : decode cX7_shortByMore 104 = .ok (.goto 4, 3) := by decide +kernel
theorem dX7_shortByMore_107 : decode cX7_shortByMore 107 = .ok (.iconst 0, 1) := by decide +kernel
theorem dX7_shortByMore_108 : decode cX7_shortByMore 108 = .ok (.iadd, 1) := by decide +kernel
theorem dX7_shortByMore_109 : decode cX7_shortByMore 109 = .ok (.istore 4, 2) := by decide +kernel
theorem dX7_shortByMore_111 : decode cX7_shortByMore 111 = .ok (.iinc 6 1, 3) := by decide +kernel
theorem dX7_shortByMore_114 : decode cX7_shortByMore 114 = .ok (.goto (-49), 3) := by decide +kernel
theorem dX7_shortByMore_117 : decode cX7_shortByMore 117 = .ok (.aload_n 0, 1) := by decide +kernel
theorem dX7_shortByMore_118 : decode cX7_shortByMore 118 = .ok (.aload_n 0, 1) := by decide +kernel
theorem dX7_shortByMore_119 : decode cX7_shortByMore 119 = .ok (.getfield 7, 3) := by decide +kernel
theorem dX7_shortByMore_122 : decode cX7_shortByMore 122 = .ok (.bipush 6, 2) := by decide +kernel
theorem dX7_shortByMore_124 : decode cX7_shortByMore 124 = .ok (.iaload, 1) := by decide +kernel
theorem dX7_shortByMore_125 : decode cX7_shortByMore 125 = .ok (.iconst 1, 1) := by decide +kernel
theorem dX7_shortByMore_126 : decode cX7_shortByMore 126 = .ok (.isub, 1) := by decide +kernel
theorem dX7_shortByMore_127 : decode cX7_shortByMore 127 = .ok (.invokevirtual 124, 3) := by decide +kernel
theorem dX7_shortByMore_130 : decode cX7_shortByMore 130 = .ok (.iinc 5 1, 3) := by decide +kernel
theorem dX7_shortByMore_133 : decode cX7_shortByMore 133 = .ok (.goto (-127), 3) := by decide +kernel
theorem dX7_shortByMore_136 : decode cX7_shortByMore 136 = .ok (.iload 4, 2) := by decide +kernel
theorem dX7_shortByMore_138 : decode cX7_shortByMore 138 = .ok (.ireturn, 1) := by decide +kernel
set_option maxRecDepth 20000 in
theorem ggX7_refusesDays_X7_isPerson : GoodIn wsX7_refusesDays wsX7_isPerson := goodIn_r _ [4, 5, 6, 3, 7] (by decide +kernel) (by decide +kernel)
set_option maxRecDepth 20000 in
theorem gX7_refusesDays_X7_isPerson : GoodIn wsX7_refusesDays (va_wsS RX7 93 yX7_isPerson wsX7_isPerson) := goodIn_app (goodIn_of _ (by decide +kernel)) ggX7_refusesDays_X7_isPerson
set_option maxRecDepth 20000 in
theorem ggX7_refusesDays_X7_isDay : GoodIn wsX7_refusesDays wsX7_isDay := goodIn_r _ [10, 5, 6, 3, 7] (by decide +kernel) (by decide +kernel)
set_option maxRecDepth 20000 in
theorem gX7_refusesDays_X7_isDay : GoodIn wsX7_refusesDays (va_wsS RX7 111 yX7_isDay wsX7_isDay) := goodIn_app (goodIn_of _ (by decide +kernel)) ggX7_refusesDays_X7_isDay
set_option maxRecDepth 20000 in
theorem ggX7_refusesDays_X7_in : GoodIn wsX7_refusesDays wsX7_in := goodIn_r _ [7] (by decide +kernel) (by decide +kernel)
set_option maxRecDepth 20000 in
theorem gX7_refusesDays_X7_in : GoodIn wsX7_refusesDays (va_wsS RX7 54 yX7_in wsX7_in) := goodIn_app (goodIn_of _ (by decide +kernel)) ggX7_refusesDays_X7_in
set_option maxRecDepth 20000 in
theorem ggX7_refusesDays_X7_isAway : GoodIn wsX7_refusesDays wsX7_isAway := goodIn_r _ [14, 15, 16, 17, 18, 3, 19, 20, 21, 22, 23, 24, 25, 26, 27, 28, 29, 30, 31, 32, 33, 34, 35, 36, 37, 38, 39] (by decide +kernel) (by decide +kernel)
set_option maxRecDepth 20000 in
theorem gX7_refusesDays_X7_isAway : GoodIn wsX7_refusesDays (wsV RX7 127 RX7 yX7_isAway wsX7_isAway) := goodIn_app (goodIn_of _ (by decide +kernel)) ggX7_refusesDays_X7_isAway
theorem dX7_refusesDays_0 : decode cX7_refusesDays 0 = .ok (.iload_n 1, 1) := by decide +kernel
theorem dX7_refusesDays_1 : decode cX7_refusesDays 1 = .ok (.invokestatic 93, 3) := by decide +kernel
theorem dX7_refusesDays_4 : decode cX7_refusesDays 4 = .ok (.ifCond .ne 5, 3) := by decide +kernel
theorem dX7_refusesDays_7 : decode cX7_refusesDays 7 = .ok (.iconst (-1), 1) := by decide +kernel
theorem dX7_refusesDays_8 : decode cX7_refusesDays 8 = .ok (.ireturn, 1) := by decide +kernel
theorem dX7_refusesDays_9 : decode cX7_refusesDays 9 = .ok (.iload_n 2, 1) := by decide +kernel
theorem dX7_refusesDays_10 : decode cX7_refusesDays 10 = .ok (.invokestatic 111, 3) := by decide +kernel
theorem dX7_refusesDays_13 : decode cX7_refusesDays 13 = .ok (.ifCond .eq 14, 3) := by decide +kernel
theorem dX7_refusesDays_16 : decode cX7_refusesDays 16 = .ok (.iload_n 3, 1) := by decide +kernel
theorem dX7_refusesDays_17 : decode cX7_refusesDays 17 = .ok (.iload_n 2, 1) := by decide +kernel
theorem dX7_refusesDays_18 : decode cX7_refusesDays 18 = .ok (.sipush 399, 3) := by decide +kernel
theorem dX7_refusesDays_21 : decode cX7_refusesDays 21 = .ok (.invokestatic 54, 3) := by decide +kernel
theorem dX7_refusesDays_24 : decode cX7_refusesDays 24 = .ok (.ifCond .ne 6, 3) := by decide +kernel
theorem dX7_refusesDays_27 : decode cX7_refusesDays 27 = .ok (.bipush (-2), 2) := by decide +kernel
theorem dX7_refusesDays_29 : decode cX7_refusesDays 29 = .ok (.ireturn, 1) := by decide +kernel
theorem dX7_refusesDays_30 : decode cX7_refusesDays 30 = .ok (.aload_n 0, 1) := by decide +kernel
theorem dX7_refusesDays_31 : decode cX7_refusesDays 31 = .ok (.iload_n 1, 1) := by decide +kernel
theorem dX7_refusesDays_32 : decode cX7_refusesDays 32 = .ok (.iload_n 2, 1) := by decide +kernel
theorem dX7_refusesDays_33 : decode cX7_refusesDays 33 = .ok (.iload_n 3, 1) := by decide +kernel
theorem dX7_refusesDays_34 : decode cX7_refusesDays 34 = .ok (.invokevirtual 127, 3) := by decide +kernel
theorem dX7_refusesDays_37 : decode cX7_refusesDays 37 = .ok (.ifCond .eq 8, 3) := by decide +kernel
theorem dX7_refusesDays_40 : decode cX7_refusesDays 40 = .ok (.bipush (-4), 2) := by decide +kernel
theorem dX7_refusesDays_42 : decode cX7_refusesDays 42 = .ok (.goto 4, 3) := by decide +kernel
theorem dX7_refusesDays_45 : decode cX7_refusesDays 45 = .ok (.iconst 0, 1) := by decide +kernel
theorem dX7_refusesDays_46 : decode cX7_refusesDays 46 = .ok (.ireturn, 1) := by decide +kernel
set_option maxRecDepth 20000 in
theorem ggX7_refusesLeave_X7_refusesDays : GoodIn wsX7_refusesLeave wsX7_refusesDays := goodIn_r _ [6, 7, 8, 5, 9, 10, 11, 12, 13, 14, 15, 16, 17, 18, 19, 1, 20, 21, 22, 23, 77, 78, 79, 80, 81, 82, 83, 84, 85, 86, 87, 88, 89, 90, 91, 92, 93, 94, 95, 96] (by decide +kernel) (by decide +kernel)
set_option maxRecDepth 20000 in
theorem gX7_refusesLeave_X7_refusesDays : GoodIn wsX7_refusesLeave (wsV RX7 130 RX7 yX7_refusesDays wsX7_refusesDays) := goodIn_app (goodIn_of _ (by decide +kernel)) ggX7_refusesLeave_X7_refusesDays
set_option maxRecDepth 20000 in
theorem ggX7_refusesLeave_X7_shortByMore : GoodIn wsX7_refusesLeave wsX7_shortByMore := goodIn_r _ [27, 28, 1, 29, 30, 31, 5, 32, 33, 34, 35, 36, 37, 38, 39, 40, 41, 42, 43, 44, 45, 46, 47, 48, 49, 50, 51, 52, 53, 54, 55, 20, 21, 22, 23, 56, 57, 58, 59, 60, 61, 62, 63, 64, 65, 66, 67, 68, 69, 70, 71, 72, 73, 74, 75, 76, 77, 78, 79, 80, 81, 82, 83, 84, 85, 86, 87, 88, 89, 90, 91, 92, 93, 94, 95, 96] (by decide +kernel) (by decide +kernel)
set_option maxRecDepth 20000 in
theorem gX7_refusesLeave_X7_shortByMore : GoodIn wsX7_refusesLeave (wsV RX7 134 RX7 yX7_shortByMore wsX7_shortByMore) := goodIn_app (goodIn_of _ (by decide +kernel)) ggX7_refusesLeave_X7_shortByMore
theorem dX7_refusesLeave_0 : decode cX7_refusesLeave 0 = .ok (.aload_n 0, 1) := by decide +kernel
theorem dX7_refusesLeave_1 : decode cX7_refusesLeave 1 = .ok (.iload_n 1, 1) := by decide +kernel
theorem dX7_refusesLeave_2 : decode cX7_refusesLeave 2 = .ok (.iload_n 2, 1) := by decide +kernel
theorem dX7_refusesLeave_3 : decode cX7_refusesLeave 3 = .ok (.iload_n 3, 1) := by decide +kernel
theorem dX7_refusesLeave_4 : decode cX7_refusesLeave 4 = .ok (.invokevirtual 130, 3) := by decide +kernel
theorem dX7_refusesLeave_7 : decode cX7_refusesLeave 7 = .ok (.istore 4, 2) := by decide +kernel
theorem dX7_refusesLeave_9 : decode cX7_refusesLeave 9 = .ok (.iload 4, 2) := by decide +kernel
theorem dX7_refusesLeave_11 : decode cX7_refusesLeave 11 = .ok (.ifCond .eq 6, 3) := by decide +kernel
theorem dX7_refusesLeave_14 : decode cX7_refusesLeave 14 = .ok (.iload 4, 2) := by decide +kernel
theorem dX7_refusesLeave_16 : decode cX7_refusesLeave 16 = .ok (.ireturn, 1) := by decide +kernel
theorem dX7_refusesLeave_17 : decode cX7_refusesLeave 17 = .ok (.aload_n 0, 1) := by decide +kernel
theorem dX7_refusesLeave_18 : decode cX7_refusesLeave 18 = .ok (.getfield 7, 3) := by decide +kernel
theorem dX7_refusesLeave_21 : decode cX7_refusesLeave 21 = .ok (.bipush 6, 2) := by decide +kernel
theorem dX7_refusesLeave_23 : decode cX7_refusesLeave 23 = .ok (.iaload, 1) := by decide +kernel
theorem dX7_refusesLeave_24 : decode cX7_refusesLeave 24 = .ok (.bipush 40, 2) := by decide +kernel
theorem dX7_refusesLeave_26 : decode cX7_refusesLeave 26 = .ok (.if_icmp .ne 6, 3) := by decide +kernel
theorem dX7_refusesLeave_29 : decode cX7_refusesLeave 29 = .ok (.bipush (-3), 2) := by decide +kernel
theorem dX7_refusesLeave_31 : decode cX7_refusesLeave 31 = .ok (.ireturn, 1) := by decide +kernel
theorem dX7_refusesLeave_32 : decode cX7_refusesLeave 32 = .ok (.aload_n 0, 1) := by decide +kernel
theorem dX7_refusesLeave_33 : decode cX7_refusesLeave 33 = .ok (.getfield 7, 3) := by decide +kernel
theorem dX7_refusesLeave_36 : decode cX7_refusesLeave 36 = .ok (.iconst 2, 1) := by decide +kernel
theorem dX7_refusesLeave_37 : decode cX7_refusesLeave 37 = .ok (.iaload, 1) := by decide +kernel
theorem dX7_refusesLeave_38 : decode cX7_refusesLeave 38 = .ok (.iconst 1, 1) := by decide +kernel
theorem dX7_refusesLeave_39 : decode cX7_refusesLeave 39 = .ok (.if_icmp .ne 18, 3) := by decide +kernel
theorem dX7_refusesLeave_42 : decode cX7_refusesLeave 42 = .ok (.aload_n 0, 1) := by decide +kernel
theorem dX7_refusesLeave_43 : decode cX7_refusesLeave 43 = .ok (.iload_n 1, 1) := by decide +kernel
theorem dX7_refusesLeave_44 : decode cX7_refusesLeave 44 = .ok (.iload_n 2, 1) := by decide +kernel
theorem dX7_refusesLeave_45 : decode cX7_refusesLeave 45 = .ok (.iload_n 3, 1) := by decide +kernel
theorem dX7_refusesLeave_46 : decode cX7_refusesLeave 46 = .ok (.invokevirtual 134, 3) := by decide +kernel
theorem dX7_refusesLeave_49 : decode cX7_refusesLeave 49 = .ok (.ifCond .le 8, 3) := by decide +kernel
theorem dX7_refusesLeave_52 : decode cX7_refusesLeave 52 = .ok (.bipush (-6), 2) := by decide +kernel
theorem dX7_refusesLeave_54 : decode cX7_refusesLeave 54 = .ok (.goto 4, 3) := by decide +kernel
theorem dX7_refusesLeave_57 : decode cX7_refusesLeave 57 = .ok (.iconst 0, 1) := by decide +kernel
theorem dX7_refusesLeave_58 : decode cX7_refusesLeave 58 = .ok (.ireturn, 1) := by decide +kernel
set_option maxRecDepth 20000 in
theorem ggX7_leave_X7_refusesLeave : GoodIn wsX7_leave wsX7_refusesLeave := goodIn_r _ [6, 7, 8, 9, 10, 5, 11, 12, 13, 14, 15, 16, 17, 18, 19, 20, 21, 22, 23, 24, 25, 26, 27, 28, 29, 30, 31, 32, 33, 34, 35, 36, 37, 38, 39, 40, 41, 42, 43, 44, 45, 46, 47, 48, 49, 50, 51, 52, 53, 54, 55, 56, 57, 58, 59, 60, 61, 62, 63, 64, 65, 66, 67, 68, 69, 70, 71, 72, 73, 74, 75, 76, 77, 78, 79, 80, 81, 88, 89, 90, 91, 92, 93, 94, 95, 96, 97, 98, 99, 100, 101, 102, 103, 104, 105, 106, 107] (by decide +kernel) (by decide +kernel)
set_option maxRecDepth 20000 in
theorem gX7_leave_X7_refusesLeave : GoodIn wsX7_leave (wsV RX7 137 RX7 yX7_refusesLeave wsX7_refusesLeave) := goodIn_app (goodIn_of _ (by decide +kernel)) ggX7_leave_X7_refusesLeave
set_option maxRecDepth 20000 in
theorem ggX7_leave_X7_records : GoodIn wsX7_leave wsX7_records := goodIn_r _ [85, 86, 87, 7, 88, 89, 90, 91, 92, 93, 94, 95, 96, 97, 98, 99, 100, 101, 102, 103, 104, 105, 106, 107] (by decide +kernel) (by decide +kernel)
set_option maxRecDepth 20000 in
theorem gX7_leave_X7_records : GoodIn wsX7_leave (wsV RX7 102 RX7 yX7_records wsX7_records) := goodIn_app (goodIn_of _ (by decide +kernel)) ggX7_leave_X7_records
set_option maxRecDepth 20000 in
theorem ggX7_leave_X7_grants : GoodIn wsX7_leave wsX7_grants := goodIn_r _ [77, 7, 88, 89, 90, 91, 92, 93, 94, 95, 96, 97, 98, 99, 100, 101, 102, 103, 104, 105, 106, 107] (by decide +kernel) (by decide +kernel)
set_option maxRecDepth 20000 in
theorem gX7_leave_X7_grants : GoodIn wsX7_leave (wsV RX7 121 RX7 yX7_grants wsX7_grants) := goodIn_app (goodIn_of _ (by decide +kernel)) ggX7_leave_X7_grants
theorem dX7_leave_0 : decode cX7_leave 0 = .ok (.aload_n 0, 1) := by decide +kernel
theorem dX7_leave_1 : decode cX7_leave 1 = .ok (.iconst 0, 1) := by decide +kernel
theorem dX7_leave_2 : decode cX7_leave 2 = .ok (.putfield 43, 3) := by decide +kernel
theorem dX7_leave_5 : decode cX7_leave 5 = .ok (.aload_n 0, 1) := by decide +kernel
theorem dX7_leave_6 : decode cX7_leave 6 = .ok (.iload_n 1, 1) := by decide +kernel
theorem dX7_leave_7 : decode cX7_leave 7 = .ok (.iload_n 2, 1) := by decide +kernel
theorem dX7_leave_8 : decode cX7_leave 8 = .ok (.iload_n 3, 1) := by decide +kernel
theorem dX7_leave_9 : decode cX7_leave 9 = .ok (.invokevirtual 137, 3) := by decide +kernel
theorem dX7_leave_12 : decode cX7_leave 12 = .ok (.istore 4, 2) := by decide +kernel
theorem dX7_leave_14 : decode cX7_leave 14 = .ok (.iload 4, 2) := by decide +kernel
theorem dX7_leave_16 : decode cX7_leave 16 = .ok (.ifCond .eq 6, 3) := by decide +kernel
theorem dX7_leave_19 : decode cX7_leave 19 = .ok (.iload 4, 2) := by decide +kernel
theorem dX7_leave_21 : decode cX7_leave 21 = .ok (.ireturn, 1) := by decide +kernel
theorem dX7_leave_22 : decode cX7_leave 22 = .ok (.aload_n 0, 1) := by decide +kernel
theorem dX7_leave_23 : decode cX7_leave 23 = .ok (.invokevirtual 102, 3) := by decide +kernel
theorem dX7_leave_26 : decode cX7_leave 26 = .ok (.aload_n 0, 1) := by decide +kernel
theorem dX7_leave_27 : decode cX7_leave 27 = .ok (.iload_n 1, 1) := by decide +kernel
theorem dX7_leave_28 : decode cX7_leave 28 = .ok (.iload_n 2, 1) := by decide +kernel
theorem dX7_leave_29 : decode cX7_leave 29 = .ok (.iload_n 3, 1) := by decide +kernel
theorem dX7_leave_30 : decode cX7_leave 30 = .ok (.invokevirtual 121, 3) := by decide +kernel
theorem dX7_leave_33 : decode cX7_leave 33 = .ok (.iload_n 3, 1) := by decide +kernel
theorem dX7_leave_34 : decode cX7_leave 34 = .ok (.iload_n 2, 1) := by decide +kernel
theorem dX7_leave_35 : decode cX7_leave 35 = .ok (.isub, 1) := by decide +kernel
theorem dX7_leave_36 : decode cX7_leave 36 = .ok (.iconst 1, 1) := by decide +kernel
theorem dX7_leave_37 : decode cX7_leave 37 = .ok (.iadd, 1) := by decide +kernel
theorem dX7_leave_38 : decode cX7_leave 38 = .ok (.ireturn, 1) := by decide +kernel
set_option maxRecDepth 20000 in
theorem ggX7_takeBack_X7_isPerson : GoodIn wsX7_takeBack wsX7_isPerson := goodIn_r _ [5, 6, 7, 4, 8] (by decide +kernel) (by decide +kernel)
set_option maxRecDepth 20000 in
theorem gX7_takeBack_X7_isPerson : GoodIn wsX7_takeBack (va_wsS RX7 93 yX7_isPerson wsX7_isPerson) := goodIn_app (goodIn_of _ (by decide +kernel)) ggX7_takeBack_X7_isPerson
set_option maxRecDepth 20000 in
theorem ggX7_takeBack_X7_isDay : GoodIn wsX7_takeBack wsX7_isDay := goodIn_r _ [11, 6, 7, 4, 8] (by decide +kernel) (by decide +kernel)
set_option maxRecDepth 20000 in
theorem gX7_takeBack_X7_isDay : GoodIn wsX7_takeBack (va_wsS RX7 111 yX7_isDay wsX7_isDay) := goodIn_app (goodIn_of _ (by decide +kernel)) ggX7_takeBack_X7_isDay
set_option maxRecDepth 20000 in
theorem ggX7_takeBack_X7_leaveOn : GoodIn wsX7_takeBack wsX7_leaveOn := goodIn_r _ [15, 16, 17, 18, 19, 4, 20, 31, 32, 33, 34, 35, 36, 37, 38, 39, 40, 41, 42, 43, 44, 45, 46, 47, 48, 49, 50] (by decide +kernel) (by decide +kernel)
set_option maxRecDepth 20000 in
theorem gX7_takeBack_X7_leaveOn : GoodIn wsX7_takeBack (wsV RX7 65 RX7 yX7_leaveOn wsX7_leaveOn) := goodIn_app (goodIn_of _ (by decide +kernel)) ggX7_takeBack_X7_leaveOn
set_option maxRecDepth 20000 in
theorem ggX7_takeBack_X7_records : GoodIn wsX7_takeBack wsX7_records := goodIn_r _ [24, 25, 26, 16, 31, 32, 33, 34, 35, 36, 37, 38, 39, 40, 41, 42, 43, 44, 45, 46, 47, 48, 49, 50] (by decide +kernel) (by decide +kernel)
set_option maxRecDepth 20000 in
theorem gX7_takeBack_X7_records : GoodIn wsX7_takeBack (wsV RX7 102 RX7 yX7_records wsX7_records) := goodIn_app (goodIn_of _ (by decide +kernel)) ggX7_takeBack_X7_records
set_option maxRecDepth 20000 in
theorem ggX7_takeBack_X7_ofLeave : GoodIn wsX7_takeBack wsX7_ofLeave := goodIn_r _ [20, 16, 31, 32, 33, 34, 35, 36, 37, 38, 39, 40, 41, 42, 43, 44, 45, 46, 47, 48, 49, 50] (by decide +kernel) (by decide +kernel)
set_option maxRecDepth 20000 in
theorem gX7_takeBack_X7_ofLeave : GoodIn wsX7_takeBack (wsV RX7 61 RX7 yX7_ofLeave wsX7_ofLeave) := goodIn_app (goodIn_of _ (by decide +kernel)) ggX7_takeBack_X7_ofLeave
set_option maxRecDepth 20000 in
theorem ggX7_takeBack_X7_drops : GoodIn wsX7_takeBack wsX7_drops := goodIn_r _ [30, 16, 31, 32, 33, 34, 35, 36, 37, 38, 39, 40, 41, 42, 43, 44, 45, 46, 47, 48, 49, 50] (by decide +kernel) (by decide +kernel)
set_option maxRecDepth 20000 in
theorem gX7_takeBack_X7_drops : GoodIn wsX7_takeBack (wsV RX7 124 RX7 yX7_drops wsX7_drops) := goodIn_app (goodIn_of _ (by decide +kernel)) ggX7_takeBack_X7_drops
theorem dX7_takeBack_0 : decode cX7_takeBack 0 = .ok (.aload_n 0, 1) := by decide +kernel
theorem dX7_takeBack_1 : decode cX7_takeBack 1 = .ok (.iconst 0, 1) := by decide +kernel
theorem dX7_takeBack_2 : decode cX7_takeBack 2 = .ok (.putfield 43, 3) := by decide +kernel
theorem dX7_takeBack_5 : decode cX7_takeBack 5 = .ok (.iload_n 1, 1) := by decide +kernel
theorem dX7_takeBack_6 : decode cX7_takeBack 6 = .ok (.invokestatic 93, 3) := by decide +kernel
theorem dX7_takeBack_9 : decode cX7_takeBack 9 = .ok (.ifCond .ne 5, 3) := by decide +kernel
theorem dX7_takeBack_12 : decode cX7_takeBack 12 = .ok (.iconst (-1), 1) := by decide +kernel
theorem dX7_takeBack_13 : decode cX7_takeBack 13 = .ok (.ireturn, 1) := by decide +kernel
theorem dX7_takeBack_14 : decode cX7_takeBack 14 = .ok (.iload_n 2, 1) := by decide +kernel
theorem dX7_takeBack_15 : decode cX7_takeBack 15 = .ok (.invokestatic 111, 3) := by decide +kernel
theorem dX7_takeBack_18 : decode cX7_takeBack 18 = .ok (.ifCond .ne 6, 3) := by decide +kernel
theorem dX7_takeBack_21 : decode cX7_takeBack 21 = .ok (.bipush (-2), 2) := by decide +kernel
theorem dX7_takeBack_23 : decode cX7_takeBack 23 = .ok (.ireturn, 1) := by decide +kernel
theorem dX7_takeBack_24 : decode cX7_takeBack 24 = .ok (.aload_n 0, 1) := by decide +kernel
theorem dX7_takeBack_25 : decode cX7_takeBack 25 = .ok (.iload_n 1, 1) := by decide +kernel
theorem dX7_takeBack_26 : decode cX7_takeBack 26 = .ok (.iload_n 2, 1) := by decide +kernel
theorem dX7_takeBack_27 : decode cX7_takeBack 27 = .ok (.invokevirtual 65, 3) := by decide +kernel
theorem dX7_takeBack_30 : decode cX7_takeBack 30 = .ok (.istore_n 3, 1) := by decide +kernel
theorem dX7_takeBack_31 : decode cX7_takeBack 31 = .ok (.iload_n 3, 1) := by decide +kernel
theorem dX7_takeBack_32 : decode cX7_takeBack 32 = .ok (.bipush (-5), 2) := by decide +kernel
theorem dX7_takeBack_34 : decode cX7_takeBack 34 = .ok (.if_icmp .ne 6, 3) := by decide +kernel
theorem dX7_takeBack_37 : decode cX7_takeBack 37 = .ok (.bipush (-5), 2) := by decide +kernel
theorem dX7_takeBack_39 : decode cX7_takeBack 39 = .ok (.ireturn, 1) := by decide +kernel
theorem dX7_takeBack_40 : decode cX7_takeBack 40 = .ok (.aload_n 0, 1) := by decide +kernel
theorem dX7_takeBack_41 : decode cX7_takeBack 41 = .ok (.invokevirtual 102, 3) := by decide +kernel
theorem dX7_takeBack_44 : decode cX7_takeBack 44 = .ok (.aload_n 0, 1) := by decide +kernel
theorem dX7_takeBack_45 : decode cX7_takeBack 45 = .ok (.iload_n 3, 1) := by decide +kernel
theorem dX7_takeBack_46 : decode cX7_takeBack 46 = .ok (.iconst 2, 1) := by decide +kernel
theorem dX7_takeBack_47 : decode cX7_takeBack 47 = .ok (.invokevirtual 61, 3) := by decide +kernel
theorem dX7_takeBack_50 : decode cX7_takeBack 50 = .ok (.aload_n 0, 1) := by decide +kernel
theorem dX7_takeBack_51 : decode cX7_takeBack 51 = .ok (.iload_n 3, 1) := by decide +kernel
theorem dX7_takeBack_52 : decode cX7_takeBack 52 = .ok (.iconst 1, 1) := by decide +kernel
theorem dX7_takeBack_53 : decode cX7_takeBack 53 = .ok (.invokevirtual 61, 3) := by decide +kernel
theorem dX7_takeBack_56 : decode cX7_takeBack 56 = .ok (.isub, 1) := by decide +kernel
theorem dX7_takeBack_57 : decode cX7_takeBack 57 = .ok (.iconst 1, 1) := by decide +kernel
theorem dX7_takeBack_58 : decode cX7_takeBack 58 = .ok (.iadd, 1) := by decide +kernel
theorem dX7_takeBack_59 : decode cX7_takeBack 59 = .ok (.istore 4, 2) := by decide +kernel
theorem dX7_takeBack_61 : decode cX7_takeBack 61 = .ok (.aload_n 0, 1) := by decide +kernel
theorem dX7_takeBack_62 : decode cX7_takeBack 62 = .ok (.iload_n 3, 1) := by decide +kernel
theorem dX7_takeBack_63 : decode cX7_takeBack 63 = .ok (.invokevirtual 124, 3) := by decide +kernel
theorem dX7_takeBack_66 : decode cX7_takeBack 66 = .ok (.iload 4, 2) := by decide +kernel
theorem dX7_takeBack_68 : decode cX7_takeBack 68 = .ok (.ireturn, 1) := by decide +kernel
set_option maxRecDepth 20000 in
theorem ggX7_refusesDrill_X7_isFloor : GoodIn wsX7_refusesDrill wsX7_isFloor := goodIn_r _ [5, 6, 7, 4, 8] (by decide +kernel) (by decide +kernel)
set_option maxRecDepth 20000 in
theorem gX7_refusesDrill_X7_isFloor : GoodIn wsX7_refusesDrill (va_wsS RX7 89 yX7_isFloor wsX7_isFloor) := goodIn_app (goodIn_of _ (by decide +kernel)) ggX7_refusesDrill_X7_isFloor
set_option maxRecDepth 20000 in
theorem ggX7_refusesDrill_X7_in : GoodIn wsX7_refusesDrill wsX7_in := goodIn_r _ [8] (by decide +kernel) (by decide +kernel)
set_option maxRecDepth 20000 in
theorem gX7_refusesDrill_X7_in : GoodIn wsX7_refusesDrill (va_wsS RX7 54 yX7_in wsX7_in) := goodIn_app (goodIn_of _ (by decide +kernel)) ggX7_refusesDrill_X7_in
set_option maxRecDepth 20000 in
theorem ggX7_refusesDrill_X7_plans : GoodIn wsX7_refusesDrill wsX7_plans := goodIn_r _ [12, 13, 14, 15, 1, 16, 17, 18, 4, 19, 20, 21, 22, 23, 24, 25, 26, 27, 28, 29, 30, 31, 32, 33, 34, 35, 36, 37, 38, 39, 40, 41, 42, 43, 44, 45, 46, 47, 48, 53, 54, 55, 56, 57, 58, 59, 60, 61, 62, 63, 64, 65, 66, 67, 68, 69, 70, 71, 72] (by decide +kernel) (by decide +kernel)
set_option maxRecDepth 20000 in
theorem gX7_refusesDrill_X7_plans : GoodIn wsX7_refusesDrill (wsV RX7 114 RX7 yX7_plans wsX7_plans) := goodIn_app (goodIn_of _ (by decide +kernel)) ggX7_refusesDrill_X7_plans
set_option maxRecDepth 20000 in
theorem ggX7_refusesDrill_X7_of : GoodIn wsX7_refusesDrill wsX7_of := goodIn_r _ [23, 1, 53, 54, 55, 56, 57, 58, 59, 60, 61, 62, 63, 64, 65, 66, 67, 68, 69, 70, 71, 72] (by decide +kernel) (by decide +kernel)
set_option maxRecDepth 20000 in
theorem gX7_refusesDrill_X7_of : GoodIn wsX7_refusesDrill (wsV RX7 68 RX7 yX7_of wsX7_of) := goodIn_app (goodIn_of _ (by decide +kernel)) ggX7_refusesDrill_X7_of
set_option maxRecDepth 20000 in
theorem ggX7_refusesDrill_X7_shortBy : GoodIn wsX7_refusesDrill wsX7_shortBy := goodIn_r _ [52, 14, 20, 21, 22, 4, 23, 1, 53, 54, 55, 56, 57, 58, 59, 60, 61, 62, 63, 64, 65, 66, 67, 68, 69, 70, 71, 72] (by decide +kernel) (by decide +kernel)
set_option maxRecDepth 20000 in
theorem gX7_refusesDrill_X7_shortBy : GoodIn wsX7_refusesDrill (wsV RX7 118 RX7 yX7_shortBy wsX7_shortBy) := goodIn_app (goodIn_of _ (by decide +kernel)) ggX7_refusesDrill_X7_shortBy
theorem dX7_refusesDrill_0 : decode cX7_refusesDrill 0 = .ok (.iload_n 1, 1) := by decide +kernel
theorem dX7_refusesDrill_1 : decode cX7_refusesDrill 1 = .ok (.invokestatic 89, 3) := by decide +kernel
theorem dX7_refusesDrill_4 : decode cX7_refusesDrill 4 = .ok (.ifCond .ne 5, 3) := by decide +kernel
theorem dX7_refusesDrill_7 : decode cX7_refusesDrill 7 = .ok (.iconst (-1), 1) := by decide +kernel
theorem dX7_refusesDrill_8 : decode cX7_refusesDrill 8 = .ok (.ireturn, 1) := by decide +kernel
theorem dX7_refusesDrill_9 : decode cX7_refusesDrill 9 = .ok (.iload_n 2, 1) := by decide +kernel
theorem dX7_refusesDrill_10 : decode cX7_refusesDrill 10 = .ok (.iconst 1, 1) := by decide +kernel
theorem dX7_refusesDrill_11 : decode cX7_refusesDrill 11 = .ok (.bipush 60, 2) := by decide +kernel
theorem dX7_refusesDrill_13 : decode cX7_refusesDrill 13 = .ok (.invokestatic 54, 3) := by decide +kernel
theorem dX7_refusesDrill_16 : decode cX7_refusesDrill 16 = .ok (.ifCond .ne 6, 3) := by decide +kernel
theorem dX7_refusesDrill_19 : decode cX7_refusesDrill 19 = .ok (.bipush (-2), 2) := by decide +kernel
theorem dX7_refusesDrill_21 : decode cX7_refusesDrill 21 = .ok (.ireturn, 1) := by decide +kernel
theorem dX7_refusesDrill_22 : decode cX7_refusesDrill 22 = .ok (.aload_n 0, 1) := by decide +kernel
theorem dX7_refusesDrill_23 : decode cX7_refusesDrill 23 = .ok (.aload_n 0, 1) := by decide +kernel
theorem dX7_refusesDrill_24 : decode cX7_refusesDrill 24 = .ok (.getfield 7, 3) := by decide +kernel
theorem dX7_refusesDrill_27 : decode cX7_refusesDrill 27 = .ok (.iconst 3, 1) := by decide +kernel
theorem dX7_refusesDrill_28 : decode cX7_refusesDrill 28 = .ok (.iaload, 1) := by decide +kernel
theorem dX7_refusesDrill_29 : decode cX7_refusesDrill 29 = .ok (.invokevirtual 114, 3) := by decide +kernel
theorem dX7_refusesDrill_32 : decode cX7_refusesDrill 32 = .ok (.aload_n 0, 1) := by decide +kernel
theorem dX7_refusesDrill_33 : decode cX7_refusesDrill 33 = .ok (.iload_n 1, 1) := by decide +kernel
theorem dX7_refusesDrill_34 : decode cX7_refusesDrill 34 = .ok (.iconst 0, 1) := by decide +kernel
theorem dX7_refusesDrill_35 : decode cX7_refusesDrill 35 = .ok (.invokevirtual 68, 3) := by decide +kernel
theorem dX7_refusesDrill_38 : decode cX7_refusesDrill 38 = .ok (.ifCond .eq 11, 3) := by decide +kernel
theorem dX7_refusesDrill_41 : decode cX7_refusesDrill 41 = .ok (.aload_n 0, 1) := by decide +kernel
theorem dX7_refusesDrill_42 : decode cX7_refusesDrill 42 = .ok (.iload_n 1, 1) := by decide +kernel
theorem dX7_refusesDrill_43 : decode cX7_refusesDrill 43 = .ok (.invokevirtual 118, 3) := by decide +kernel
theorem dX7_refusesDrill_46 : decode cX7_refusesDrill 46 = .ok (.ifCond .le 8, 3) := by decide +kernel
theorem dX7_refusesDrill_49 : decode cX7_refusesDrill 49 = .ok (.bipush (-4), 2) := by decide +kernel
theorem dX7_refusesDrill_51 : decode cX7_refusesDrill 51 = .ok (.goto 4, 3) := by decide +kernel
theorem dX7_refusesDrill_54 : decode cX7_refusesDrill 54 = .ok (.iconst 0, 1) := by decide +kernel
theorem dX7_refusesDrill_55 : decode cX7_refusesDrill 55 = .ok (.ireturn, 1) := by decide +kernel
set_option maxRecDepth 20000 in
theorem ggX7_drills_X7_of : GoodIn wsX7_drills wsX7_of := goodIn_r _ [7, 2, 12, 13, 14, 15, 16, 17, 18, 19, 20, 21, 22, 23, 24, 25, 26, 27, 28, 29, 30, 31] (by decide +kernel) (by decide +kernel)
set_option maxRecDepth 20000 in
theorem gX7_drills_X7_of : GoodIn wsX7_drills (wsV RX7 68 RX7 yX7_of wsX7_of) := goodIn_app (goodIn_of _ (by decide +kernel)) ggX7_drills_X7_of
set_option maxRecDepth 20000 in
theorem ggX7_drills_X7_lay : GoodIn wsX7_drills wsX7_lay := goodIn_r _ [11, 2, 12, 13, 14, 15, 16, 17, 18, 19, 20, 21, 22, 23, 24, 25, 26, 27, 28, 29, 30, 31] (by decide +kernel) (by decide +kernel)
set_option maxRecDepth 20000 in
theorem gX7_drills_X7_lay : GoodIn wsX7_drills (wsV RX7 50 RX7 yX7_lay wsX7_lay) := goodIn_app (goodIn_of _ (by decide +kernel)) ggX7_drills_X7_lay
theorem dX7_drills_0 : decode cX7_drills 0 = .ok (.aload_n 0, 1) := by decide +kernel
theorem dX7_drills_1 : decode cX7_drills 1 = .ok (.getfield 28, 3) := by decide +kernel
theorem dX7_drills_4 : decode cX7_drills 4 = .ok (.iconst 3, 1) := by decide +kernel
theorem dX7_drills_5 : decode cX7_drills 5 = .ok (.iload_n 1, 1) := by decide +kernel
theorem dX7_drills_6 : decode cX7_drills 6 = .ok (.imul, 1) := by decide +kernel
theorem dX7_drills_7 : decode cX7_drills 7 = .ok (.iaload, 1) := by decide +kernel
theorem dX7_drills_8 : decode cX7_drills 8 = .ok (.istore_n 3, 1) := by decide +kernel
theorem dX7_drills_9 : decode cX7_drills 9 = .ok (.aload_n 0, 1) := by decide +kernel
theorem dX7_drills_10 : decode cX7_drills 10 = .ok (.iload_n 1, 1) := by decide +kernel
theorem dX7_drills_11 : decode cX7_drills 11 = .ok (.bipush 8, 2) := by decide +kernel
theorem dX7_drills_13 : decode cX7_drills 13 = .ok (.invokevirtual 68, 3) := by decide +kernel
theorem dX7_drills_16 : decode cX7_drills 16 = .ok (.istore 4, 2) := by decide +kernel
theorem dX7_drills_18 : decode cX7_drills 18 = .ok (.iload 4, 2) := by decide +kernel
theorem dX7_drills_20 : decode cX7_drills 20 = .ok (.bipush 6, 2) := by decide +kernel
theorem dX7_drills_22 : decode cX7_drills 22 = .ok (.if_icmp .ne 44, 3) := by decide +kernel
theorem dX7_drills_25 : decode cX7_drills 25 = .ok (.iconst 0, 1) := by decide +kernel
theorem dX7_drills_26 : decode cX7_drills 26 = .ok (.istore 5, 2) := by decide +kernel
theorem dX7_drills_28 : decode cX7_drills 28 = .ok (.iload 5, 2) := by decide +kernel
theorem dX7_drills_30 : decode cX7_drills 30 = .ok (.bipush 15, 2) := by decide +kernel
theorem dX7_drills_32 : decode cX7_drills 32 = .ok (.if_icmp .ge 31, 3) := by decide +kernel
theorem dX7_drills_35 : decode cX7_drills 35 = .ok (.aload_n 0, 1) := by decide +kernel
theorem dX7_drills_36 : decode cX7_drills 36 = .ok (.iload_n 1, 1) := by decide +kernel
theorem dX7_drills_37 : decode cX7_drills 37 = .ok (.bipush 9, 2) := by decide +kernel
theorem dX7_drills_39 : decode cX7_drills 39 = .ok (.iload 5, 2) := by decide +kernel
theorem dX7_drills_41 : decode cX7_drills 41 = .ok (.iadd, 1) := by decide +kernel
theorem dX7_drills_42 : decode cX7_drills 42 = .ok (.aload_n 0, 1) := by decide +kernel
theorem dX7_drills_43 : decode cX7_drills 43 = .ok (.iload_n 1, 1) := by decide +kernel
theorem dX7_drills_44 : decode cX7_drills 44 = .ok (.bipush 9, 2) := by decide +kernel
theorem dX7_drills_46 : decode cX7_drills 46 = .ok (.iload 5, 2) := by decide +kernel
theorem dX7_drills_48 : decode cX7_drills 48 = .ok (.iadd, 1) := by decide +kernel
theorem dX7_drills_49 : decode cX7_drills 49 = .ok (.iconst 3, 1) := by decide +kernel
theorem dX7_drills_50 : decode cX7_drills 50 = .ok (.iadd, 1) := by decide +kernel
theorem dX7_drills_51 : decode cX7_drills 51 = .ok (.invokevirtual 68, 3) := by decide +kernel
theorem dX7_drills_54 : decode cX7_drills 54 = .ok (.invokevirtual 50, 3) := by decide +kernel
theorem dX7_drills_57 : decode cX7_drills 57 = .ok (.iinc 5 1, 3) := by decide +kernel
theorem dX7_drills_60 : decode cX7_drills 60 = .ok (.goto (-32), 3) := by decide +kernel
theorem dX7_drills_63 : decode cX7_drills 63 = .ok (.iinc 4 (-1), 3) := by decide +kernel
theorem dX7_drills_66 : decode cX7_drills 66 = .ok (.aload_n 0, 1) := by decide +kernel
theorem dX7_drills_67 : decode cX7_drills 67 = .ok (.iload_n 1, 1) := by decide +kernel
theorem dX7_drills_68 : decode cX7_drills 68 = .ok (.bipush 9, 2) := by decide +kernel
theorem dX7_drills_70 : decode cX7_drills 70 = .ok (.iconst 3, 1) := by decide +kernel
theorem dX7_drills_71 : decode cX7_drills 71 = .ok (.iload 4, 2) := by decide +kernel
theorem dX7_drills_73 : decode cX7_drills 73 = .ok (.imul, 1) := by decide +kernel
theorem dX7_drills_74 : decode cX7_drills 74 = .ok (.iadd, 1) := by decide +kernel
theorem dX7_drills_75 : decode cX7_drills 75 = .ok (.aload_n 0, 1) := by decide +kernel
theorem dX7_drills_76 : decode cX7_drills 76 = .ok (.getfield 7, 3) := by decide +kernel
theorem dX7_drills_79 : decode cX7_drills 79 = .ok (.iconst 3, 1) := by decide +kernel
theorem dX7_drills_80 : decode cX7_drills 80 = .ok (.iaload, 1) := by decide +kernel
theorem dX7_drills_81 : decode cX7_drills 81 = .ok (.invokevirtual 50, 3) := by decide +kernel
theorem dX7_drills_84 : decode cX7_drills 84 = .ok (.aload_n 0, 1) := by decide +kernel
theorem dX7_drills_85 : decode cX7_drills 85 = .ok (.iload_n 1, 1) := by decide +kernel
theorem dX7_drills_86 : decode cX7_drills 86 = .ok (.bipush 9, 2) := by decide +kernel
theorem dX7_drills_88 : decode cX7_drills 88 = .ok (.iconst 3, 1) := by decide +kernel
theorem dX7_drills_89 : decode cX7_drills 89 = .ok (.iload 4, 2) := by decide +kernel
theorem dX7_drills_91 : decode cX7_drills 91 = .ok (.imul, 1) := by decide +kernel
theorem dX7_drills_92 : decode cX7_drills 92 = .ok (.iadd, 1) := by decide +kernel
theorem dX7_drills_93 : decode cX7_drills 93 = .ok (.iconst 1, 1) := by decide +kernel
theorem dX7_drills_94 : decode cX7_drills 94 = .ok (.iadd, 1) := by decide +kernel
theorem dX7_drills_95 : decode cX7_drills 95 = .ok (.iload_n 2, 1) := by decide +kernel
theorem dX7_drills_96 : decode cX7_drills 96 = .ok (.invokevirtual 50, 3) := by decide +kernel
theorem dX7_drills_99 : decode cX7_drills 99 = .ok (.aload_n 0, 1) := by decide +kernel
theorem dX7_drills_100 : decode cX7_drills 100 = .ok (.iload_n 1, 1) := by decide +kernel
theorem dX7_drills_101 : decode cX7_drills 101 = .ok (.bipush 9, 2) := by decide +kernel
theorem dX7_drills_103 : decode cX7_drills 103 = .ok (.iconst 3, 1) := by decide +kernel
theorem dX7_drills_104 : decode cX7_drills 104 = .ok (.iload 4, 2) := by decide +kernel
theorem dX7_drills_106 : decode cX7_drills 106 = .ok (.imul, 1) := by decide +kernel
theorem dX7_drills_107 : decode cX7_drills 107 = .ok (.iadd, 1) := by decide +kernel
theorem dX7_drills_108 : decode cX7_drills 108 = .ok (.iconst 2, 1) := by decide +kernel
theorem dX7_drills_109 : decode cX7_drills 109 = .ok (.iadd, 1) := by decide +kernel
theorem dX7_drills_110 : decode cX7_drills 110 = .ok (.iload_n 3, 1) := by decide +kernel
theorem dX7_drills_111 : decode cX7_drills 111 = .ok (.invokevirtual 50, 3) := by decide +kernel
theorem dX7_drills_114 : decode cX7_drills 114 = .ok (.aload_n 0, 1) := by decide +kernel
theorem dX7_drills_115 : decode cX7_drills 115 = .ok (.iload_n 1, 1) := by decide +kernel
theorem dX7_drills_116 : decode cX7_drills 116 = .ok (.bipush 8, 2) := by decide +kernel
theorem dX7_drills_118 : decode cX7_drills 118 = .ok (.iload 4, 2) := by decide +kernel
theorem dX7_drills_120 : decode cX7_drills 120 = .ok (.iconst 1, 1) := by decide +kernel
theorem dX7_drills_121 : decode cX7_drills 121 = .ok (.iadd, 1) := by decide +kernel
theorem dX7_drills_122 : decode cX7_drills 122 = .ok (.invokevirtual 50, 3) := by decide +kernel
theorem dX7_drills_125 : decode cX7_drills 125 = .ok (.aload_n 0, 1) := by decide +kernel
theorem dX7_drills_126 : decode cX7_drills 126 = .ok (.iload_n 1, 1) := by decide +kernel
theorem dX7_drills_127 : decode cX7_drills 127 = .ok (.bipush 7, 2) := by decide +kernel
theorem dX7_drills_129 : decode cX7_drills 129 = .ok (.aload_n 0, 1) := by decide +kernel
theorem dX7_drills_130 : decode cX7_drills 130 = .ok (.iload_n 1, 1) := by decide +kernel
theorem dX7_drills_131 : decode cX7_drills 131 = .ok (.bipush 7, 2) := by decide +kernel
theorem dX7_drills_133 : decode cX7_drills 133 = .ok (.invokevirtual 68, 3) := by decide +kernel
theorem dX7_drills_136 : decode cX7_drills 136 = .ok (.iconst 1, 1) := by decide +kernel
theorem dX7_drills_137 : decode cX7_drills 137 = .ok (.iadd, 1) := by decide +kernel
theorem dX7_drills_138 : decode cX7_drills 138 = .ok (.invokevirtual 50, 3) := by decide +kernel
theorem dX7_drills_141 : decode cX7_drills 141 = .ok (.aload_n 0, 1) := by decide +kernel
theorem dX7_drills_142 : decode cX7_drills 142 = .ok (.iload_n 1, 1) := by decide +kernel
theorem dX7_drills_143 : decode cX7_drills 143 = .ok (.bipush 27, 2) := by decide +kernel
theorem dX7_drills_145 : decode cX7_drills 145 = .ok (.aload_n 0, 1) := by decide +kernel
theorem dX7_drills_146 : decode cX7_drills 146 = .ok (.getfield 7, 3) := by decide +kernel
theorem dX7_drills_149 : decode cX7_drills 149 = .ok (.iconst 3, 1) := by decide +kernel
theorem dX7_drills_150 : decode cX7_drills 150 = .ok (.iaload, 1) := by decide +kernel
theorem dX7_drills_151 : decode cX7_drills 151 = .ok (.bipush 100, 2) := by decide +kernel
theorem dX7_drills_153 : decode cX7_drills 153 = .ok (.idiv, 1) := by decide +kernel
theorem dX7_drills_154 : decode cX7_drills 154 = .ok (.iadd, 1) := by decide +kernel
theorem dX7_drills_155 : decode cX7_drills 155 = .ok (.iconst 1, 1) := by decide +kernel
theorem dX7_drills_156 : decode cX7_drills 156 = .ok (.invokevirtual 50, 3) := by decide +kernel
theorem dX7_drills_159 : decode cX7_drills 159 = .ok (.aload_n 0, 1) := by decide +kernel
theorem dX7_drills_160 : decode cX7_drills 160 = .ok (.getfield 7, 3) := by decide +kernel
theorem dX7_drills_163 : decode cX7_drills 163 = .ok (.sipush 318, 3) := by decide +kernel
theorem dX7_drills_166 : decode cX7_drills 166 = .ok (.iconst 2, 1) := by decide +kernel
theorem dX7_drills_167 : decode cX7_drills 167 = .ok (.iload_n 3, 1) := by decide +kernel
theorem dX7_drills_168 : decode cX7_drills 168 = .ok (.imul, 1) := by decide +kernel
theorem dX7_drills_169 : decode cX7_drills 169 = .ok (.iadd, 1) := by decide +kernel
theorem dX7_drills_170 : decode cX7_drills 170 = .ok (.iconst 1, 1) := by decide +kernel
theorem dX7_drills_171 : decode cX7_drills 171 = .ok (.iadd, 1) := by decide +kernel
theorem dX7_drills_172 : decode cX7_drills 172 = .ok (.dup2, 1) := by decide +kernel
theorem dX7_drills_173 : decode cX7_drills 173 = .ok (.iaload, 1) := by decide +kernel
theorem dX7_drills_174 : decode cX7_drills 174 = .ok (.iconst 1, 1) := by decide +kernel
theorem dX7_drills_175 : decode cX7_drills 175 = .ok (.iadd, 1) := by decide +kernel
theorem dX7_drills_176 : decode cX7_drills 176 = .ok (.iastore, 1) := by decide +kernel
theorem dX7_drills_177 : decode cX7_drills 177 = .ok (.aload_n 0, 1) := by decide +kernel
theorem dX7_drills_178 : decode cX7_drills 178 = .ok (.getfield 7, 3) := by decide +kernel
theorem dX7_drills_181 : decode cX7_drills 181 = .ok (.iconst 4, 1) := by decide +kernel
theorem dX7_drills_182 : decode cX7_drills 182 = .ok (.dup2, 1) := by decide +kernel
theorem dX7_drills_183 : decode cX7_drills 183 = .ok (.iaload, 1) := by decide +kernel
theorem dX7_drills_184 : decode cX7_drills 184 = .ok (.iconst 1, 1) := by decide +kernel
theorem dX7_drills_185 : decode cX7_drills 185 = .ok (.iadd, 1) := by decide +kernel
theorem dX7_drills_186 : decode cX7_drills 186 = .ok (.iastore, 1) := by decide +kernel
theorem dX7_drills_187 : decode cX7_drills 187 = .ok (.aload_n 0, 1) := by decide +kernel
theorem dX7_drills_188 : decode cX7_drills 188 = .ok (.getfield 7, 3) := by decide +kernel
theorem dX7_drills_191 : decode cX7_drills 191 = .ok (.iconst 5, 1) := by decide +kernel
theorem dX7_drills_192 : decode cX7_drills 192 = .ok (.dup2, 1) := by decide +kernel
theorem dX7_drills_193 : decode cX7_drills 193 = .ok (.iaload, 1) := by decide +kernel
theorem dX7_drills_194 : decode cX7_drills 194 = .ok (.iload_n 2, 1) := by decide +kernel
theorem dX7_drills_195 : decode cX7_drills 195 = .ok (.iadd, 1) := by decide +kernel
theorem dX7_drills_196 : decode cX7_drills 196 = .ok (.iastore, 1) := by decide +kernel
theorem dX7_drills_197 : decode cX7_drills 197 = .ok (.iload_n 3, 1) := by decide +kernel
theorem dX7_drills_198 : decode cX7_drills 198 = .ok (.ireturn, 1) := by decide +kernel
set_option maxRecDepth 20000 in
theorem ggX7_drill_X7_refusesDrill : GoodIn wsX7_drill wsX7_refusesDrill := goodIn_r _ [6, 7, 8, 9, 5, 10, 11, 12, 13, 14, 15, 16, 17, 18, 19, 20, 21, 22, 23, 24, 25, 26, 27, 28, 29, 30, 31, 32, 33, 34, 35, 36, 37, 38, 39, 40, 41, 42, 43, 44, 45, 46, 47, 48, 49, 50, 51, 52, 53, 54, 55, 56, 57, 72, 73, 74, 75, 76, 77, 78, 79, 80, 81, 82, 83, 84, 85, 86, 87, 88, 89, 90, 91] (by decide +kernel) (by decide +kernel)
set_option maxRecDepth 20000 in
theorem gX7_drill_X7_refusesDrill : GoodIn wsX7_drill (wsV RX7 140 RX7 yX7_refusesDrill wsX7_refusesDrill) := goodIn_app (goodIn_of _ (by decide +kernel)) ggX7_drill_X7_refusesDrill
set_option maxRecDepth 20000 in
theorem ggX7_drill_X7_records : GoodIn wsX7_drill wsX7_records := goodIn_r _ [61, 62, 63, 7, 72, 73, 74, 75, 76, 77, 78, 79, 80, 81, 82, 83, 84, 85, 86, 87, 88, 89, 90, 91] (by decide +kernel) (by decide +kernel)
set_option maxRecDepth 20000 in
theorem gX7_drill_X7_records : GoodIn wsX7_drill (wsV RX7 102 RX7 yX7_records wsX7_records) := goodIn_app (goodIn_of _ (by decide +kernel)) ggX7_drill_X7_records
set_option maxRecDepth 20000 in
theorem ggX7_drill_X7_drills : GoodIn wsX7_drill wsX7_drills := goodIn_r _ [67, 49, 7, 25, 26, 27, 5, 28, 68, 69, 70, 71, 72, 73, 74, 75, 76, 77, 78, 79, 80, 81, 82, 83, 84, 85, 86, 87, 88, 89, 90, 91] (by decide +kernel) (by decide +kernel)
set_option maxRecDepth 20000 in
theorem gX7_drill_X7_drills : GoodIn wsX7_drill (wsV RX7 143 RX7 yX7_drills wsX7_drills) := goodIn_app (goodIn_of _ (by decide +kernel)) ggX7_drill_X7_drills
theorem dX7_drill_0 : decode cX7_drill 0 = .ok (.aload_n 0, 1) := by decide +kernel
theorem dX7_drill_1 : decode cX7_drill 1 = .ok (.iconst 0, 1) := by decide +kernel
theorem dX7_drill_2 : decode cX7_drill 2 = .ok (.putfield 43, 3) := by decide +kernel
theorem dX7_drill_5 : decode cX7_drill 5 = .ok (.aload_n 0, 1) := by decide +kernel
theorem dX7_drill_6 : decode cX7_drill 6 = .ok (.iload_n 1, 1) := by decide +kernel
theorem dX7_drill_7 : decode cX7_drill 7 = .ok (.iload_n 2, 1) := by decide +kernel
theorem dX7_drill_8 : decode cX7_drill 8 = .ok (.invokevirtual 140, 3) := by decide +kernel
theorem dX7_drill_11 : decode cX7_drill 11 = .ok (.istore_n 3, 1) := by decide +kernel
theorem dX7_drill_12 : decode cX7_drill 12 = .ok (.iload_n 3, 1) := by decide +kernel
theorem dX7_drill_13 : decode cX7_drill 13 = .ok (.ifCond .eq 5, 3) := by decide +kernel
theorem dX7_drill_16 : decode cX7_drill 16 = .ok (.iload_n 3, 1) := by decide +kernel
theorem dX7_drill_17 : decode cX7_drill 17 = .ok (.ireturn, 1) := by decide +kernel
theorem dX7_drill_18 : decode cX7_drill 18 = .ok (.aload_n 0, 1) := by decide +kernel
theorem dX7_drill_19 : decode cX7_drill 19 = .ok (.invokevirtual 102, 3) := by decide +kernel
theorem dX7_drill_22 : decode cX7_drill 22 = .ok (.aload_n 0, 1) := by decide +kernel
theorem dX7_drill_23 : decode cX7_drill 23 = .ok (.iload_n 1, 1) := by decide +kernel
theorem dX7_drill_24 : decode cX7_drill 24 = .ok (.iload_n 2, 1) := by decide +kernel
theorem dX7_drill_25 : decode cX7_drill 25 = .ok (.invokevirtual 143, 3) := by decide +kernel
theorem dX7_drill_28 : decode cX7_drill 28 = .ok (.ireturn, 1) := by decide +kernel
set_option maxRecDepth 20000 in
theorem ggX7_shortFloors_X7_plans : GoodIn wsX7_shortFloors wsX7_plans := goodIn_r _ [5, 6, 7, 8, 9, 10, 11, 12, 4, 13, 14, 15, 16, 17, 18, 19, 20, 21, 22, 23, 24, 25, 26, 27, 28, 29, 30, 31, 32, 33, 34, 35, 36, 37, 38, 39, 40, 41, 42, 47, 48, 49, 50, 51, 52, 53, 54, 55, 56, 57, 58, 59, 60, 61, 62, 63, 64, 65, 66] (by decide +kernel) (by decide +kernel)
set_option maxRecDepth 20000 in
theorem gX7_shortFloors_X7_plans : GoodIn wsX7_shortFloors (wsV RX7 114 RX7 yX7_plans wsX7_plans) := goodIn_app (goodIn_of _ (by decide +kernel)) ggX7_shortFloors_X7_plans
set_option maxRecDepth 20000 in
theorem ggX7_shortFloors_X7_shortBy : GoodIn wsX7_shortFloors wsX7_shortBy := goodIn_r _ [46, 7, 14, 15, 16, 4, 17, 9, 47, 48, 49, 50, 51, 52, 53, 54, 55, 56, 57, 58, 59, 60, 61, 62, 63, 64, 65, 66] (by decide +kernel) (by decide +kernel)
set_option maxRecDepth 20000 in
theorem gX7_shortFloors_X7_shortBy : GoodIn wsX7_shortFloors (wsV RX7 118 RX7 yX7_shortBy wsX7_shortBy) := goodIn_app (goodIn_of _ (by decide +kernel)) ggX7_shortFloors_X7_shortBy
theorem dX7_shortFloors_0 : decode cX7_shortFloors 0 = .ok (.aload_n 0, 1) := by decide +kernel
theorem dX7_shortFloors_1 : decode cX7_shortFloors 1 = .ok (.iload_n 1, 1) := by decide +kernel
theorem dX7_shortFloors_2 : decode cX7_shortFloors 2 = .ok (.invokevirtual 114, 3) := by decide +kernel
theorem dX7_shortFloors_5 : decode cX7_shortFloors 5 = .ok (.iconst 0, 1) := by decide +kernel
theorem dX7_shortFloors_6 : decode cX7_shortFloors 6 = .ok (.istore_n 2, 1) := by decide +kernel
theorem dX7_shortFloors_7 : decode cX7_shortFloors 7 = .ok (.iconst 0, 1) := by decide +kernel
theorem dX7_shortFloors_8 : decode cX7_shortFloors 8 = .ok (.istore_n 3, 1) := by decide +kernel
theorem dX7_shortFloors_9 : decode cX7_shortFloors 9 = .ok (.iload_n 3, 1) := by decide +kernel
theorem dX7_shortFloors_10 : decode cX7_shortFloors 10 = .ok (.bipush 10, 2) := by decide +kernel
theorem dX7_shortFloors_12 : decode cX7_shortFloors 12 = .ok (.if_icmp .ge 25, 3) := by decide +kernel
theorem dX7_shortFloors_15 : decode cX7_shortFloors 15 = .ok (.iload_n 2, 1) := by decide +kernel
theorem dX7_shortFloors_16 : decode cX7_shortFloors 16 = .ok (.aload_n 0, 1) := by decide +kernel
theorem dX7_shortFloors_17 : decode cX7_shortFloors 17 = .ok (.iload_n 3, 1) := by decide +kernel
theorem dX7_shortFloors_18 : decode cX7_shortFloors 18 = .ok (.invokevirtual 118, 3) := by decide +kernel
theorem dX7_shortFloors_21 : decode cX7_shortFloors 21 = .ok (.ifCond .le 7, 3) := by decide +kernel
theorem dX7_shortFloors_24 : decode cX7_shortFloors 24 = .ok (.iconst 1, 1) := by decide +kernel
theorem dX7_shortFloors_25 : decode cX7_shortFloors 25 = .ok (.goto 4, 3) := by decide +kernel
theorem dX7_shortFloors_28 : decode cX7_shortFloors 28 = .ok (.iconst 0, 1) := by decide +kernel
theorem dX7_shortFloors_29 : decode cX7_shortFloors 29 = .ok (.iadd, 1) := by decide +kernel
theorem dX7_shortFloors_30 : decode cX7_shortFloors 30 = .ok (.istore_n 2, 1) := by decide +kernel
theorem dX7_shortFloors_31 : decode cX7_shortFloors 31 = .ok (.iinc 3 1, 3) := by decide +kernel
theorem dX7_shortFloors_34 : decode cX7_shortFloors 34 = .ok (.goto (-25), 3) := by decide +kernel
theorem dX7_shortFloors_37 : decode cX7_shortFloors 37 = .ok (.iload_n 2, 1) := by decide +kernel
theorem dX7_shortFloors_38 : decode cX7_shortFloors 38 = .ok (.ireturn, 1) := by decide +kernel
set_option maxRecDepth 20000 in
theorem ggX7_refusesPass_X7_in : GoodIn wsX7_refusesPass wsX7_in := goodIn_r _ [5] (by decide +kernel) (by decide +kernel)
set_option maxRecDepth 20000 in
theorem gX7_refusesPass_X7_in : GoodIn wsX7_refusesPass (va_wsS RX7 54 yX7_in wsX7_in) := goodIn_app (goodIn_of _ (by decide +kernel)) ggX7_refusesPass_X7_in
theorem dX7_refusesPass_0 : decode cX7_refusesPass 0 = .ok (.iload_n 1, 1) := by decide +kernel
theorem dX7_refusesPass_1 : decode cX7_refusesPass 1 = .ok (.iconst 1, 1) := by decide +kernel
theorem dX7_refusesPass_2 : decode cX7_refusesPass 2 = .ok (.bipush 99, 2) := by decide +kernel
theorem dX7_refusesPass_4 : decode cX7_refusesPass 4 = .ok (.invokestatic 54, 3) := by decide +kernel
theorem dX7_refusesPass_7 : decode cX7_refusesPass 7 = .ok (.ifCond .ne 8, 3) := by decide +kernel
theorem dX7_refusesPass_10 : decode cX7_refusesPass 10 = .ok (.bipush (-2), 2) := by decide +kernel
theorem dX7_refusesPass_12 : decode cX7_refusesPass 12 = .ok (.goto 23, 3) := by decide +kernel
theorem dX7_refusesPass_15 : decode cX7_refusesPass 15 = .ok (.aload_n 0, 1) := by decide +kernel
theorem dX7_refusesPass_16 : decode cX7_refusesPass 16 = .ok (.getfield 7, 3) := by decide +kernel
theorem dX7_refusesPass_19 : decode cX7_refusesPass 19 = .ok (.iconst 3, 1) := by decide +kernel
theorem dX7_refusesPass_20 : decode cX7_refusesPass 20 = .ok (.iaload, 1) := by decide +kernel
theorem dX7_refusesPass_21 : decode cX7_refusesPass 21 = .ok (.iload_n 1, 1) := by decide +kernel
theorem dX7_refusesPass_22 : decode cX7_refusesPass 22 = .ok (.iadd, 1) := by decide +kernel
theorem dX7_refusesPass_23 : decode cX7_refusesPass 23 = .ok (.sipush 399, 3) := by decide +kernel
theorem dX7_refusesPass_26 : decode cX7_refusesPass 26 = .ok (.if_icmp .le 8, 3) := by decide +kernel
theorem dX7_refusesPass_29 : decode cX7_refusesPass 29 = .ok (.bipush (-3), 2) := by decide +kernel
theorem dX7_refusesPass_31 : decode cX7_refusesPass 31 = .ok (.goto 4, 3) := by decide +kernel
theorem dX7_refusesPass_34 : decode cX7_refusesPass 34 = .ok (.iconst 0, 1) := by decide +kernel
theorem dX7_refusesPass_35 : decode cX7_refusesPass 35 = .ok (.ireturn, 1) := by decide +kernel
set_option maxRecDepth 20000 in
theorem ggX7_pass_X7_refusesPass : GoodIn wsX7_pass wsX7_refusesPass := goodIn_r _ [7, 2, 8, 9, 6, 10, 65, 66, 67, 68, 69, 70, 71, 72, 73, 74, 75, 76, 77, 78, 79, 80, 81, 82, 83, 84] (by decide +kernel) (by decide +kernel)
set_option maxRecDepth 20000 in
theorem gX7_pass_X7_refusesPass : GoodIn wsX7_pass (wsV RX7 146 RX7 yX7_refusesPass wsX7_refusesPass) := goodIn_app (goodIn_of _ (by decide +kernel)) ggX7_pass_X7_refusesPass
set_option maxRecDepth 20000 in
theorem ggX7_pass_X7_records : GoodIn wsX7_pass wsX7_records := goodIn_r _ [14, 15, 16, 2, 65, 66, 67, 68, 69, 70, 71, 72, 73, 74, 75, 76, 77, 78, 79, 80, 81, 82, 83, 84] (by decide +kernel) (by decide +kernel)
set_option maxRecDepth 20000 in
theorem gX7_pass_X7_records : GoodIn wsX7_pass (wsV RX7 102 RX7 yX7_records wsX7_records) := goodIn_app (goodIn_of _ (by decide +kernel)) ggX7_pass_X7_records
set_option maxRecDepth 20000 in
theorem ggX7_pass_X7_shortFloors : GoodIn wsX7_pass wsX7_shortFloors := goodIn_r _ [20, 21, 22, 23, 6, 24, 25, 26, 27, 2, 28, 29, 30, 31, 32, 33, 34, 35, 36, 37, 38, 39, 40, 41, 42, 43, 44, 45, 46, 47, 48, 49, 50, 51, 52, 53, 54, 55, 56, 57, 58, 59, 60, 61, 62, 63, 64, 65, 66, 67, 68, 69, 70, 71, 72, 73, 74, 75, 76, 77, 78, 79, 80, 81, 82, 83, 84] (by decide +kernel) (by decide +kernel)
set_option maxRecDepth 20000 in
theorem gX7_pass_X7_shortFloors : GoodIn wsX7_pass (wsV RX7 149 RX7 yX7_shortFloors wsX7_shortFloors) := goodIn_app (goodIn_of _ (by decide +kernel)) ggX7_pass_X7_shortFloors
theorem dX7_pass_0 : decode cX7_pass 0 = .ok (.aload_n 0, 1) := by decide +kernel
theorem dX7_pass_1 : decode cX7_pass 1 = .ok (.iconst 0, 1) := by decide +kernel
theorem dX7_pass_2 : decode cX7_pass 2 = .ok (.putfield 43, 3) := by decide +kernel
theorem dX7_pass_5 : decode cX7_pass 5 = .ok (.aload_n 0, 1) := by decide +kernel
theorem dX7_pass_6 : decode cX7_pass 6 = .ok (.iload_n 1, 1) := by decide +kernel
theorem dX7_pass_7 : decode cX7_pass 7 = .ok (.invokevirtual 146, 3) := by decide +kernel
theorem dX7_pass_10 : decode cX7_pass 10 = .ok (.istore_n 2, 1) := by decide +kernel
theorem dX7_pass_11 : decode cX7_pass 11 = .ok (.iload_n 2, 1) := by decide +kernel
theorem dX7_pass_12 : decode cX7_pass 12 = .ok (.ifCond .eq 5, 3) := by decide +kernel
theorem dX7_pass_15 : decode cX7_pass 15 = .ok (.iload_n 2, 1) := by decide +kernel
theorem dX7_pass_16 : decode cX7_pass 16 = .ok (.ireturn, 1) := by decide +kernel
theorem dX7_pass_17 : decode cX7_pass 17 = .ok (.aload_n 0, 1) := by decide +kernel
theorem dX7_pass_18 : decode cX7_pass 18 = .ok (.invokevirtual 102, 3) := by decide +kernel
theorem dX7_pass_21 : decode cX7_pass 21 = .ok (.aload_n 0, 1) := by decide +kernel
theorem dX7_pass_22 : decode cX7_pass 22 = .ok (.getfield 7, 3) := by decide +kernel
theorem dX7_pass_25 : decode cX7_pass 25 = .ok (.iconst 3, 1) := by decide +kernel
theorem dX7_pass_26 : decode cX7_pass 26 = .ok (.dup2, 1) := by decide +kernel
theorem dX7_pass_27 : decode cX7_pass 27 = .ok (.iaload, 1) := by decide +kernel
theorem dX7_pass_28 : decode cX7_pass 28 = .ok (.iload_n 1, 1) := by decide +kernel
theorem dX7_pass_29 : decode cX7_pass 29 = .ok (.iadd, 1) := by decide +kernel
theorem dX7_pass_30 : decode cX7_pass 30 = .ok (.iastore, 1) := by decide +kernel
theorem dX7_pass_31 : decode cX7_pass 31 = .ok (.aload_n 0, 1) := by decide +kernel
theorem dX7_pass_32 : decode cX7_pass 32 = .ok (.aload_n 0, 1) := by decide +kernel
theorem dX7_pass_33 : decode cX7_pass 33 = .ok (.getfield 7, 3) := by decide +kernel
theorem dX7_pass_36 : decode cX7_pass 36 = .ok (.iconst 3, 1) := by decide +kernel
theorem dX7_pass_37 : decode cX7_pass 37 = .ok (.iaload, 1) := by decide +kernel
theorem dX7_pass_38 : decode cX7_pass 38 = .ok (.invokevirtual 149, 3) := by decide +kernel
theorem dX7_pass_41 : decode cX7_pass 41 = .ok (.ireturn, 1) := by decide +kernel
theorem dX7_type_0 : decode cX7_type 0 = .ok (.aload_n 0, 1) := by decide +kernel
theorem dX7_type_1 : decode cX7_type 1 = .ok (.iconst 0, 1) := by decide +kernel
theorem dX7_type_2 : decode cX7_type 2 = .ok (.putfield 43, 3) := by decide +kernel
theorem dX7_type_5 : decode cX7_type 5 = .ok (.aload_n 0, 1) := by decide +kernel
theorem dX7_type_6 : decode cX7_type 6 = .ok (.getfield 152, 3) := by decide +kernel
theorem dX7_type_9 : decode cX7_type 9 = .ok (.bipush 80, 2) := by decide +kernel
theorem dX7_type_11 : decode cX7_type 11 = .ok (.if_icmp .ne 6, 3) := by decide +kernel
theorem dX7_type_14 : decode cX7_type 14 = .ok (.bipush (-3), 2) := by decide +kernel
theorem dX7_type_16 : decode cX7_type 16 = .ok (.ireturn, 1) := by decide +kernel
theorem dX7_type_17 : decode cX7_type 17 = .ok (.aload_n 0, 1) := by decide +kernel
theorem dX7_type_18 : decode cX7_type 18 = .ok (.getfield 22, 3) := by decide +kernel
theorem dX7_type_21 : decode cX7_type 21 = .ok (.aload_n 0, 1) := by decide +kernel
theorem dX7_type_22 : decode cX7_type 22 = .ok (.getfield 152, 3) := by decide +kernel
theorem dX7_type_25 : decode cX7_type 25 = .ok (.iload_n 1, 1) := by decide +kernel
theorem dX7_type_26 : decode cX7_type 26 = .ok (.iastore, 1) := by decide +kernel
theorem dX7_type_27 : decode cX7_type 27 = .ok (.aload_n 0, 1) := by decide +kernel
theorem dX7_type_28 : decode cX7_type 28 = .ok (.dup, 1) := by decide +kernel
theorem dX7_type_29 : decode cX7_type 29 = .ok (.getfield 152, 3) := by decide +kernel
theorem dX7_type_32 : decode cX7_type 32 = .ok (.iconst 1, 1) := by decide +kernel
theorem dX7_type_33 : decode cX7_type 33 = .ok (.iadd, 1) := by decide +kernel
theorem dX7_type_34 : decode cX7_type 34 = .ok (.putfield 152, 3) := by decide +kernel
theorem dX7_type_37 : decode cX7_type 37 = .ok (.aload_n 0, 1) := by decide +kernel
theorem dX7_type_38 : decode cX7_type 38 = .ok (.getfield 152, 3) := by decide +kernel
theorem dX7_type_41 : decode cX7_type 41 = .ok (.ireturn, 1) := by decide +kernel
theorem dX7_clearText_0 : decode cX7_clearText 0 = .ok (.aload_n 0, 1) := by decide +kernel
theorem dX7_clearText_1 : decode cX7_clearText 1 = .ok (.iconst 0, 1) := by decide +kernel
theorem dX7_clearText_2 : decode cX7_clearText 2 = .ok (.putfield 43, 3) := by decide +kernel
theorem dX7_clearText_5 : decode cX7_clearText 5 = .ok (.aload_n 0, 1) := by decide +kernel
theorem dX7_clearText_6 : decode cX7_clearText 6 = .ok (.getfield 152, 3) := by decide +kernel
theorem dX7_clearText_9 : decode cX7_clearText 9 = .ok (.istore_n 1, 1) := by decide +kernel
theorem dX7_clearText_10 : decode cX7_clearText 10 = .ok (.aload_n 0, 1) := by decide +kernel
theorem dX7_clearText_11 : decode cX7_clearText 11 = .ok (.iconst 0, 1) := by decide +kernel
theorem dX7_clearText_12 : decode cX7_clearText 12 = .ok (.putfield 152, 3) := by decide +kernel
theorem dX7_clearText_15 : decode cX7_clearText 15 = .ok (.iload_n 1, 1) := by decide +kernel
theorem dX7_clearText_16 : decode cX7_clearText 16 = .ok (.ireturn, 1) := by decide +kernel
theorem dX7_sign_0 : decode cX7_sign 0 = .ok (.aload_n 0, 1) := by decide +kernel
theorem dX7_sign_1 : decode cX7_sign 1 = .ok (.getfield 155, 3) := by decide +kernel
theorem dX7_sign_4 : decode cX7_sign 4 = .ok (.aload_n 0, 1) := by decide +kernel
theorem dX7_sign_5 : decode cX7_sign 5 = .ok (.getfield 152, 3) := by decide +kernel
theorem dX7_sign_8 : decode cX7_sign 8 = .ok (.if_icmp .ge 15, 3) := by decide +kernel
theorem dX7_sign_11 : decode cX7_sign 11 = .ok (.aload_n 0, 1) := by decide +kernel
theorem dX7_sign_12 : decode cX7_sign 12 = .ok (.getfield 22, 3) := by decide +kernel
theorem dX7_sign_15 : decode cX7_sign 15 = .ok (.aload_n 0, 1) := by decide +kernel
theorem dX7_sign_16 : decode cX7_sign 16 = .ok (.getfield 155, 3) := by decide +kernel
theorem dX7_sign_19 : decode cX7_sign 19 = .ok (.iaload, 1) := by decide +kernel
theorem dX7_sign_20 : decode cX7_sign 20 = .ok (.goto 4, 3) := by decide +kernel
theorem dX7_sign_23 : decode cX7_sign 23 = .ok (.iconst 0, 1) := by decide +kernel
theorem dX7_sign_24 : decode cX7_sign 24 = .ok (.ireturn, 1) := by decide +kernel
set_option maxRecDepth 20000 in
theorem ggX7_wants_X7_sign : GoodIn wsX7_wants wsX7_sign := goodIn_r _ [7, 2, 8, 9, 10, 11, 12, 13, 14, 15, 16, 17, 18, 19, 20, 21, 22, 23, 24, 25, 26, 27, 28, 29] (by decide +kernel) (by decide +kernel)
set_option maxRecDepth 20000 in
theorem gX7_wants_X7_sign : GoodIn wsX7_wants (wsV RX7 162 RX7 yX7_sign wsX7_sign) := goodIn_app (goodIn_of _ (by decide +kernel)) ggX7_wants_X7_sign
theorem dX7_wants_0 : decode cX7_wants 0 = .ok (.aload_n 0, 1) := by decide +kernel
theorem dX7_wants_1 : decode cX7_wants 1 = .ok (.aload_n 0, 1) := by decide +kernel
theorem dX7_wants_2 : decode cX7_wants 2 = .ok (.getfield 158, 3) := by decide +kernel
theorem dX7_wants_5 : decode cX7_wants 5 = .ok (.ifCond .eq 15, 3) := by decide +kernel
theorem dX7_wants_8 : decode cX7_wants 8 = .ok (.aload_n 0, 1) := by decide +kernel
theorem dX7_wants_9 : decode cX7_wants 9 = .ok (.invokevirtual 162, 3) := by decide +kernel
theorem dX7_wants_12 : decode cX7_wants 12 = .ok (.iload_n 1, 1) := by decide +kernel
theorem dX7_wants_13 : decode cX7_wants 13 = .ok (.if_icmp .ne 7, 3) := by decide +kernel
theorem dX7_wants_16 : decode cX7_wants 16 = .ok (.iconst 1, 1) := by decide +kernel
theorem dX7_wants_17 : decode cX7_wants 17 = .ok (.goto 4, 3) := by decide +kernel
theorem dX7_wants_20 : decode cX7_wants 20 = .ok (.iconst 0, 1) := by decide +kernel
theorem dX7_wants_21 : decode cX7_wants 21 = .ok (.putfield 158, 3) := by decide +kernel
theorem dX7_wants_24 : decode cX7_wants 24 = .ok (.aload_n 0, 1) := by decide +kernel
theorem dX7_wants_25 : decode cX7_wants 25 = .ok (.dup, 1) := by decide +kernel
theorem dX7_wants_26 : decode cX7_wants 26 = .ok (.getfield 155, 3) := by decide +kernel
theorem dX7_wants_29 : decode cX7_wants 29 = .ok (.aload_n 0, 1) := by decide +kernel
theorem dX7_wants_30 : decode cX7_wants 30 = .ok (.getfield 158, 3) := by decide +kernel
theorem dX7_wants_33 : decode cX7_wants 33 = .ok (.ifCond .eq 7, 3) := by decide +kernel
theorem dX7_wants_36 : decode cX7_wants 36 = .ok (.iconst 1, 1) := by decide +kernel
theorem dX7_wants_37 : decode cX7_wants 37 = .ok (.goto 4, 3) := by decide +kernel
theorem dX7_wants_40 : decode cX7_wants 40 = .ok (.iconst 0, 1) := by decide +kernel
theorem dX7_wants_41 : decode cX7_wants 41 = .ok (.iadd, 1) := by decide +kernel
theorem dX7_wants_42 : decode cX7_wants 42 = .ok (.putfield 155, 3) := by decide +kernel
theorem dX7_wants_45 : decode cX7_wants 45 = .ok (.return_, 1) := by decide +kernel
set_option maxRecDepth 20000 in
theorem ggX7_number_X7_wants : GoodIn wsX7_number wsX7_wants := goodIn_r _ [7, 1, 2, 8, 9, 10, 6, 11, 12, 13, 17, 18, 19, 20, 21, 22, 23, 24, 25, 26, 27, 28, 29, 30, 31, 32, 33, 34, 35, 36] (by decide +kernel) (by decide +kernel)
set_option maxRecDepth 20000 in
theorem gX7_number_X7_wants : GoodIn wsX7_number (wsV RX7 166 RX7 yX7_wants wsX7_wants) := goodIn_app (goodIn_of _ (by decide +kernel)) ggX7_number_X7_wants
set_option maxRecDepth 20000 in
theorem ggX7_number_X7_sign : GoodIn wsX7_number wsX7_sign := goodIn_r _ [11, 2, 12, 13, 17, 18, 19, 20, 21, 22, 23, 24, 25, 26, 27, 28, 29, 30, 31, 32, 33, 34, 35, 36] (by decide +kernel) (by decide +kernel)
set_option maxRecDepth 20000 in
theorem gX7_number_X7_sign : GoodIn wsX7_number (wsV RX7 162 RX7 yX7_sign wsX7_sign) := goodIn_app (goodIn_of _ (by decide +kernel)) ggX7_number_X7_sign
set_option maxRecDepth 20000 in
theorem ggX7_number_X7_in : GoodIn wsX7_number wsX7_in := goodIn_r _ [16] (by decide +kernel) (by decide +kernel)
set_option maxRecDepth 20000 in
theorem gX7_number_X7_in : GoodIn wsX7_number (va_wsS RX7 54 yX7_in wsX7_in) := goodIn_app (goodIn_of _ (by decide +kernel)) ggX7_number_X7_in
theorem dX7_number_0 : decode cX7_number 0 = .ok (.aload_n 0, 1) := by decide +kernel
theorem dX7_number_1 : decode cX7_number 1 = .ok (.bipush 32, 2) := by decide +kernel
theorem dX7_number_3 : decode cX7_number 3 = .ok (.invokevirtual 166, 3) := by decide +kernel
theorem dX7_number_6 : decode cX7_number 6 = .ok (.aload_n 0, 1) := by decide +kernel
theorem dX7_number_7 : decode cX7_number 7 = .ok (.aload_n 0, 1) := by decide +kernel
theorem dX7_number_8 : decode cX7_number 8 = .ok (.getfield 158, 3) := by decide +kernel
theorem dX7_number_11 : decode cX7_number 11 = .ok (.ifCond .eq 34, 3) := by decide +kernel
theorem dX7_number_14 : decode cX7_number 14 = .ok (.aload_n 0, 1) := by decide +kernel
theorem dX7_number_15 : decode cX7_number 15 = .ok (.invokevirtual 162, 3) := by decide +kernel
theorem dX7_number_18 : decode cX7_number 18 = .ok (.bipush 48, 2) := by decide +kernel
theorem dX7_number_20 : decode cX7_number 20 = .ok (.iload_n 1, 1) := by decide +kernel
theorem dX7_number_21 : decode cX7_number 21 = .ok (.iadd, 1) := by decide +kernel
theorem dX7_number_22 : decode cX7_number 22 = .ok (.bipush 57, 2) := by decide +kernel
theorem dX7_number_24 : decode cX7_number 24 = .ok (.invokestatic 54, 3) := by decide +kernel
theorem dX7_number_27 : decode cX7_number 27 = .ok (.ifCond .eq 18, 3) := by decide +kernel
theorem dX7_number_30 : decode cX7_number 30 = .ok (.aload_n 0, 1) := by decide +kernel
theorem dX7_number_31 : decode cX7_number 31 = .ok (.invokevirtual 162, 3) := by decide +kernel
theorem dX7_number_34 : decode cX7_number 34 = .ok (.bipush 48, 2) := by decide +kernel
theorem dX7_number_36 : decode cX7_number 36 = .ok (.isub, 1) := by decide +kernel
theorem dX7_number_37 : decode cX7_number 37 = .ok (.iload_n 2, 1) := by decide +kernel
theorem dX7_number_38 : decode cX7_number 38 = .ok (.if_icmp .gt 7, 3) := by decide +kernel
theorem dX7_number_41 : decode cX7_number 41 = .ok (.iconst 1, 1) := by decide +kernel
theorem dX7_number_42 : decode cX7_number 42 = .ok (.goto 4, 3) := by decide +kernel
theorem dX7_number_45 : decode cX7_number 45 = .ok (.iconst 0, 1) := by decide +kernel
theorem dX7_number_46 : decode cX7_number 46 = .ok (.putfield 158, 3) := by decide +kernel
theorem dX7_number_49 : decode cX7_number 49 = .ok (.aload_n 0, 1) := by decide +kernel
theorem dX7_number_50 : decode cX7_number 50 = .ok (.invokevirtual 162, 3) := by decide +kernel
theorem dX7_number_53 : decode cX7_number 53 = .ok (.bipush 48, 2) := by decide +kernel
theorem dX7_number_55 : decode cX7_number 55 = .ok (.isub, 1) := by decide +kernel
theorem dX7_number_56 : decode cX7_number 56 = .ok (.istore_n 3, 1) := by decide +kernel
theorem dX7_number_57 : decode cX7_number 57 = .ok (.aload_n 0, 1) := by decide +kernel
theorem dX7_number_58 : decode cX7_number 58 = .ok (.dup, 1) := by decide +kernel
theorem dX7_number_59 : decode cX7_number 59 = .ok (.getfield 155, 3) := by decide +kernel
theorem dX7_number_62 : decode cX7_number 62 = .ok (.aload_n 0, 1) := by decide +kernel
theorem dX7_number_63 : decode cX7_number 63 = .ok (.getfield 158, 3) := by decide +kernel
theorem dX7_number_66 : decode cX7_number 66 = .ok (.ifCond .eq 7, 3) := by decide +kernel
theorem dX7_number_69 : decode cX7_number 69 = .ok (.iconst 1, 1) := by decide +kernel
theorem dX7_number_70 : decode cX7_number 70 = .ok (.goto 4, 3) := by decide +kernel
theorem dX7_number_73 : decode cX7_number 73 = .ok (.iconst 0, 1) := by decide +kernel
theorem dX7_number_74 : decode cX7_number 74 = .ok (.iadd, 1) := by decide +kernel
theorem dX7_number_75 : decode cX7_number 75 = .ok (.putfield 155, 3) := by decide +kernel
theorem dX7_number_78 : decode cX7_number 78 = .ok (.aload_n 0, 1) := by decide +kernel
theorem dX7_number_79 : decode cX7_number 79 = .ok (.getfield 158, 3) := by decide +kernel
theorem dX7_number_82 : decode cX7_number 82 = .ok (.ifCond .eq 63, 3) := by decide +kernel
theorem dX7_number_85 : decode cX7_number 85 = .ok (.iload_n 3, 1) := by decide +kernel
theorem dX7_number_86 : decode cX7_number 86 = .ok (.ifCond .le 59, 3) := by decide +kernel
theorem dX7_number_89 : decode cX7_number 89 = .ok (.aload_n 0, 1) := by decide +kernel
theorem dX7_number_90 : decode cX7_number 90 = .ok (.invokevirtual 162, 3) := by decide +kernel
theorem dX7_number_93 : decode cX7_number 93 = .ok (.bipush 48, 2) := by decide +kernel
theorem dX7_number_95 : decode cX7_number 95 = .ok (.bipush 57, 2) := by decide +kernel
theorem dX7_number_97 : decode cX7_number 97 = .ok (.invokestatic 54, 3) := by decide +kernel
theorem dX7_number_100 : decode cX7_number 100 = .ok (.ifCond .eq 45, 3) := by decide +kernel
theorem dX7_number_103 : decode cX7_number 103 = .ok (.bipush 10, 2) := by decide +kernel
theorem dX7_number_105 : decode cX7_number 105 = .ok (.iload_n 3, 1) := by decide +kernel
theorem dX7_number_106 : decode cX7_number 106 = .ok (.imul, 1) := by decide +kernel
theorem dX7_number_107 : decode cX7_number 107 = .ok (.aload_n 0, 1) := by decide +kernel
theorem dX7_number_108 : decode cX7_number 108 = .ok (.invokevirtual 162, 3) := by decide +kernel
theorem dX7_number_111 : decode cX7_number 111 = .ok (.iadd, 1) := by decide +kernel
theorem dX7_number_112 : decode cX7_number 112 = .ok (.bipush 48, 2) := by decide +kernel
theorem dX7_number_114 : decode cX7_number 114 = .ok (.isub, 1) := by decide +kernel
theorem dX7_number_115 : decode cX7_number 115 = .ok (.iload_n 2, 1) := by decide +kernel
theorem dX7_number_116 : decode cX7_number 116 = .ok (.if_icmp .gt 29, 3) := by decide +kernel
theorem dX7_number_119 : decode cX7_number 119 = .ok (.bipush 10, 2) := by decide +kernel
theorem dX7_number_121 : decode cX7_number 121 = .ok (.iload_n 3, 1) := by decide +kernel
theorem dX7_number_122 : decode cX7_number 122 = .ok (.imul, 1) := by decide +kernel
theorem dX7_number_123 : decode cX7_number 123 = .ok (.aload_n 0, 1) := by decide +kernel
theorem dX7_number_124 : decode cX7_number 124 = .ok (.invokevirtual 162, 3) := by decide +kernel
theorem dX7_number_127 : decode cX7_number 127 = .ok (.iadd, 1) := by decide +kernel
theorem dX7_number_128 : decode cX7_number 128 = .ok (.bipush 48, 2) := by decide +kernel
theorem dX7_number_130 : decode cX7_number 130 = .ok (.isub, 1) := by decide +kernel
theorem dX7_number_131 : decode cX7_number 131 = .ok (.istore_n 3, 1) := by decide +kernel
theorem dX7_number_132 : decode cX7_number 132 = .ok (.aload_n 0, 1) := by decide +kernel
theorem dX7_number_133 : decode cX7_number 133 = .ok (.dup, 1) := by decide +kernel
theorem dX7_number_134 : decode cX7_number 134 = .ok (.getfield 155, 3) := by decide +kernel
theorem dX7_number_137 : decode cX7_number 137 = .ok (.iconst 1, 1) := by decide +kernel
theorem dX7_number_138 : decode cX7_number 138 = .ok (.iadd, 1) := by decide +kernel
theorem dX7_number_139 : decode cX7_number 139 = .ok (.putfield 155, 3) := by decide +kernel
theorem dX7_number_142 : decode cX7_number 142 = .ok (.goto (-64), 3) := by decide +kernel
theorem dX7_number_145 : decode cX7_number 145 = .ok (.iload_n 3, 1) := by decide +kernel
theorem dX7_number_146 : decode cX7_number 146 = .ok (.ireturn, 1) := by decide +kernel
set_option maxRecDepth 20000 in
theorem ggX7_rest_X7_wants : GoodIn wsX7_rest wsX7_wants := goodIn_r _ [5, 6, 7, 8, 9, 10, 4, 11, 12, 13, 14, 15, 16, 17, 18, 19, 20, 21, 22, 23, 24, 25, 26, 27, 28, 29, 30, 31, 32, 33] (by decide +kernel) (by decide +kernel)
set_option maxRecDepth 20000 in
theorem gX7_rest_X7_wants : GoodIn wsX7_rest (wsV RX7 166 RX7 yX7_wants wsX7_wants) := goodIn_app (goodIn_of _ (by decide +kernel)) ggX7_rest_X7_wants
theorem dX7_rest_0 : decode cX7_rest 0 = .ok (.aload_n 0, 1) := by decide +kernel
theorem dX7_rest_1 : decode cX7_rest 1 = .ok (.iload_n 1, 1) := by decide +kernel
theorem dX7_rest_2 : decode cX7_rest 2 = .ok (.invokevirtual 166, 3) := by decide +kernel
theorem dX7_rest_5 : decode cX7_rest 5 = .ok (.aload_n 0, 1) := by decide +kernel
theorem dX7_rest_6 : decode cX7_rest 6 = .ok (.iload_n 2, 1) := by decide +kernel
theorem dX7_rest_7 : decode cX7_rest 7 = .ok (.invokevirtual 166, 3) := by decide +kernel
theorem dX7_rest_10 : decode cX7_rest 10 = .ok (.iload_n 3, 1) := by decide +kernel
theorem dX7_rest_11 : decode cX7_rest 11 = .ok (.ifCond .eq 8, 3) := by decide +kernel
theorem dX7_rest_14 : decode cX7_rest 14 = .ok (.aload_n 0, 1) := by decide +kernel
theorem dX7_rest_15 : decode cX7_rest 15 = .ok (.iload_n 3, 1) := by decide +kernel
theorem dX7_rest_16 : decode cX7_rest 16 = .ok (.invokevirtual 166, 3) := by decide +kernel
theorem dX7_rest_19 : decode cX7_rest 19 = .ok (.iload 4, 2) := by decide +kernel
theorem dX7_rest_21 : decode cX7_rest 21 = .ok (.ifCond .eq 9, 3) := by decide +kernel
theorem dX7_rest_24 : decode cX7_rest 24 = .ok (.aload_n 0, 1) := by decide +kernel
theorem dX7_rest_25 : decode cX7_rest 25 = .ok (.iload 4, 2) := by decide +kernel
theorem dX7_rest_27 : decode cX7_rest 27 = .ok (.invokevirtual 166, 3) := by decide +kernel
theorem dX7_rest_30 : decode cX7_rest 30 = .ok (.return_, 1) := by decide +kernel
set_option maxRecDepth 20000 in
theorem ggX7_readsWord_X7_rest : GoodIn wsX7_readsWord wsX7_rest := goodIn_r _ [5, 6, 7, 8, 4, 9, 10, 11, 12, 13, 14, 15, 16, 17, 18, 19, 20, 21, 22, 23, 24, 25, 26, 27, 28, 29, 30, 31, 32, 33, 34, 35, 36, 37] (by decide +kernel) (by decide +kernel)
set_option maxRecDepth 20000 in
theorem gX7_readsWord_X7_rest : GoodIn wsX7_readsWord (wsV RX7 169 RX7 yX7_rest wsX7_rest) := goodIn_app (goodIn_of _ (by decide +kernel)) ggX7_readsWord_X7_rest
theorem dX7_readsWord_0 : decode cX7_readsWord 0 = .ok (.iload_n 1, 1) := by decide +kernel
theorem dX7_readsWord_1 : decode cX7_readsWord 1 = .ok (.bipush 114, 2) := by decide +kernel
theorem dX7_readsWord_3 : decode cX7_readsWord 3 = .ok (.if_icmp .ne 16, 3) := by decide +kernel
theorem dX7_readsWord_6 : decode cX7_readsWord 6 = .ok (.aload_n 0, 1) := by decide +kernel
theorem dX7_readsWord_7 : decode cX7_readsWord 7 = .ok (.bipush 111, 2) := by decide +kernel
theorem dX7_readsWord_9 : decode cX7_readsWord 9 = .ok (.bipush 119, 2) := by decide +kernel
theorem dX7_readsWord_11 : decode cX7_readsWord 11 = .ok (.iconst 0, 1) := by decide +kernel
theorem dX7_readsWord_12 : decode cX7_readsWord 12 = .ok (.iconst 0, 1) := by decide +kernel
theorem dX7_readsWord_13 : decode cX7_readsWord 13 = .ok (.invokevirtual 169, 3) := by decide +kernel
theorem dX7_readsWord_16 : decode cX7_readsWord 16 = .ok (.goto 75, 3) := by decide +kernel
theorem dX7_readsWord_19 : decode cX7_readsWord 19 = .ok (.iload_n 1, 1) := by decide +kernel
theorem dX7_readsWord_20 : decode cX7_readsWord 20 = .ok (.bipush 111, 2) := by decide +kernel
theorem dX7_readsWord_22 : decode cX7_readsWord 22 = .ok (.if_icmp .ne 16, 3) := by decide +kernel
theorem dX7_readsWord_25 : decode cX7_readsWord 25 = .ok (.aload_n 0, 1) := by decide +kernel
theorem dX7_readsWord_26 : decode cX7_readsWord 26 = .ok (.bipush 102, 2) := by decide +kernel
theorem dX7_readsWord_28 : decode cX7_readsWord 28 = .ok (.bipush 102, 2) := by decide +kernel
theorem dX7_readsWord_30 : decode cX7_readsWord 30 = .ok (.iconst 0, 1) := by decide +kernel
theorem dX7_readsWord_31 : decode cX7_readsWord 31 = .ok (.iconst 0, 1) := by decide +kernel
theorem dX7_readsWord_32 : decode cX7_readsWord 32 = .ok (.invokevirtual 169, 3) := by decide +kernel
theorem dX7_readsWord_35 : decode cX7_readsWord 35 = .ok (.goto 56, 3) := by decide +kernel
theorem dX7_readsWord_38 : decode cX7_readsWord 38 = .ok (.iload_n 1, 1) := by decide +kernel
theorem dX7_readsWord_39 : decode cX7_readsWord 39 = .ok (.bipush 108, 2) := by decide +kernel
theorem dX7_readsWord_41 : decode cX7_readsWord 41 = .ok (.if_icmp .ne 18, 3) := by decide +kernel
theorem dX7_readsWord_44 : decode cX7_readsWord 44 = .ok (.aload_n 0, 1) := by decide +kernel
theorem dX7_readsWord_45 : decode cX7_readsWord 45 = .ok (.bipush 101, 2) := by decide +kernel
theorem dX7_readsWord_47 : decode cX7_readsWord 47 = .ok (.bipush 97, 2) := by decide +kernel
theorem dX7_readsWord_49 : decode cX7_readsWord 49 = .ok (.bipush 118, 2) := by decide +kernel
theorem dX7_readsWord_51 : decode cX7_readsWord 51 = .ok (.bipush 101, 2) := by decide +kernel
theorem dX7_readsWord_53 : decode cX7_readsWord 53 = .ok (.invokevirtual 169, 3) := by decide +kernel
theorem dX7_readsWord_56 : decode cX7_readsWord 56 = .ok (.goto 35, 3) := by decide +kernel
theorem dX7_readsWord_59 : decode cX7_readsWord 59 = .ok (.iload_n 1, 1) := by decide +kernel
theorem dX7_readsWord_60 : decode cX7_readsWord 60 = .ok (.bipush 100, 2) := by decide +kernel
theorem dX7_readsWord_62 : decode cX7_readsWord 62 = .ok (.if_icmp .ne 18, 3) := by decide +kernel
theorem dX7_readsWord_65 : decode cX7_readsWord 65 = .ok (.aload_n 0, 1) := by decide +kernel
theorem dX7_readsWord_66 : decode cX7_readsWord 66 = .ok (.bipush 114, 2) := by decide +kernel
theorem dX7_readsWord_68 : decode cX7_readsWord 68 = .ok (.bipush 105, 2) := by decide +kernel
theorem dX7_readsWord_70 : decode cX7_readsWord 70 = .ok (.bipush 108, 2) := by decide +kernel
theorem dX7_readsWord_72 : decode cX7_readsWord 72 = .ok (.bipush 108, 2) := by decide +kernel
theorem dX7_readsWord_74 : decode cX7_readsWord 74 = .ok (.invokevirtual 169, 3) := by decide +kernel
theorem dX7_readsWord_77 : decode cX7_readsWord 77 = .ok (.goto 14, 3) := by decide +kernel
theorem dX7_readsWord_80 : decode cX7_readsWord 80 = .ok (.aload_n 0, 1) := by decide +kernel
theorem dX7_readsWord_81 : decode cX7_readsWord 81 = .ok (.bipush 97, 2) := by decide +kernel
theorem dX7_readsWord_83 : decode cX7_readsWord 83 = .ok (.bipush 115, 2) := by decide +kernel
theorem dX7_readsWord_85 : decode cX7_readsWord 85 = .ok (.bipush 115, 2) := by decide +kernel
theorem dX7_readsWord_87 : decode cX7_readsWord 87 = .ok (.iconst 0, 1) := by decide +kernel
theorem dX7_readsWord_88 : decode cX7_readsWord 88 = .ok (.invokevirtual 169, 3) := by decide +kernel
theorem dX7_readsWord_91 : decode cX7_readsWord 91 = .ok (.return_, 1) := by decide +kernel
set_option maxRecDepth 20000 in
theorem ggX7_readsOrder_X7_sign : GoodIn wsX7_readsOrder wsX7_sign := goodIn_r _ [9, 3, 10, 11, 31, 32, 33, 34, 35, 36, 37, 38, 39, 40, 41, 42, 43, 44, 45, 46, 47, 48, 49, 50] (by decide +kernel) (by decide +kernel)
set_option maxRecDepth 20000 in
theorem gX7_readsOrder_X7_sign : GoodIn wsX7_readsOrder (wsV RX7 162 RX7 yX7_sign wsX7_sign) := goodIn_app (goodIn_of _ (by decide +kernel)) ggX7_readsOrder_X7_sign
set_option maxRecDepth 20000 in
theorem ggX7_readsOrder_X7_readsWord : GoodIn wsX7_readsOrder wsX7_readsWord := goodIn_r _ [15, 16, 17, 18, 8, 19, 20, 21, 22, 23, 2, 3, 5, 6, 7, 9, 10, 11, 31, 32, 33, 34, 35, 36, 37, 38, 39, 40, 41, 42, 43, 44, 45, 46, 47, 48, 49, 50] (by decide +kernel) (by decide +kernel)
set_option maxRecDepth 20000 in
theorem gX7_readsOrder_X7_readsWord : GoodIn wsX7_readsOrder (wsV RX7 176 RX7 yX7_readsWord wsX7_readsWord) := goodIn_app (goodIn_of _ (by decide +kernel)) ggX7_readsOrder_X7_readsWord
set_option maxRecDepth 20000 in
theorem ggX7_readsOrder_X7_number : GoodIn wsX7_readsOrder wsX7_number := goodIn_r _ [27, 2, 3, 20, 21, 22, 8, 23, 5, 6, 7, 9, 10, 11, 28, 29, 30, 31, 32, 33, 34, 35, 36, 37, 38, 39, 40, 41, 42, 43, 44, 45, 46, 47, 48, 49, 50] (by decide +kernel) (by decide +kernel)
set_option maxRecDepth 20000 in
theorem gX7_readsOrder_X7_number : GoodIn wsX7_readsOrder (wsV RX7 179 RX7 yX7_number wsX7_number) := goodIn_app (goodIn_of _ (by decide +kernel)) ggX7_readsOrder_X7_number
theorem dX7_readsOrder_0 : decode cX7_readsOrder 0 = .ok (.iconst 4, 1) := by decide +kernel
theorem dX7_readsOrder_1 : decode cX7_readsOrder 1 = .ok (.aload_n 0, 1) := by decide +kernel
theorem dX7_readsOrder_2 : decode cX7_readsOrder 2 = .ok (.getfield 173, 3) := by decide +kernel
theorem dX7_readsOrder_5 : decode cX7_readsOrder 5 = .ok (.imul, 1) := by decide +kernel
theorem dX7_readsOrder_6 : decode cX7_readsOrder 6 = .ok (.istore_n 1, 1) := by decide +kernel
theorem dX7_readsOrder_7 : decode cX7_readsOrder 7 = .ok (.aload_n 0, 1) := by decide +kernel
theorem dX7_readsOrder_8 : decode cX7_readsOrder 8 = .ok (.invokevirtual 162, 3) := by decide +kernel
theorem dX7_readsOrder_11 : decode cX7_readsOrder 11 = .ok (.istore_n 2, 1) := by decide +kernel
theorem dX7_readsOrder_12 : decode cX7_readsOrder 12 = .ok (.aload_n 0, 1) := by decide +kernel
theorem dX7_readsOrder_13 : decode cX7_readsOrder 13 = .ok (.iload_n 2, 1) := by decide +kernel
theorem dX7_readsOrder_14 : decode cX7_readsOrder 14 = .ok (.bipush 114, 2) := by decide +kernel
theorem dX7_readsOrder_16 : decode cX7_readsOrder 16 = .ok (.if_icmp .eq 27, 3) := by decide +kernel
theorem dX7_readsOrder_19 : decode cX7_readsOrder 19 = .ok (.iload_n 2, 1) := by decide +kernel
theorem dX7_readsOrder_20 : decode cX7_readsOrder 20 = .ok (.bipush 111, 2) := by decide +kernel
theorem dX7_readsOrder_22 : decode cX7_readsOrder 22 = .ok (.if_icmp .eq 21, 3) := by decide +kernel
theorem dX7_readsOrder_25 : decode cX7_readsOrder 25 = .ok (.iload_n 2, 1) := by decide +kernel
theorem dX7_readsOrder_26 : decode cX7_readsOrder 26 = .ok (.bipush 108, 2) := by decide +kernel
theorem dX7_readsOrder_28 : decode cX7_readsOrder 28 = .ok (.if_icmp .eq 15, 3) := by decide +kernel
theorem dX7_readsOrder_31 : decode cX7_readsOrder 31 = .ok (.iload_n 2, 1) := by decide +kernel
theorem dX7_readsOrder_32 : decode cX7_readsOrder 32 = .ok (.bipush 100, 2) := by decide +kernel
theorem dX7_readsOrder_34 : decode cX7_readsOrder 34 = .ok (.if_icmp .eq 9, 3) := by decide +kernel
theorem dX7_readsOrder_37 : decode cX7_readsOrder 37 = .ok (.iload_n 2, 1) := by decide +kernel
theorem dX7_readsOrder_38 : decode cX7_readsOrder 38 = .ok (.bipush 112, 2) := by decide +kernel
theorem dX7_readsOrder_40 : decode cX7_readsOrder 40 = .ok (.if_icmp .ne 7, 3) := by decide +kernel
theorem dX7_readsOrder_43 : decode cX7_readsOrder 43 = .ok (.iconst 1, 1) := by decide +kernel
theorem dX7_readsOrder_44 : decode cX7_readsOrder 44 = .ok (.goto 4, 3) := by decide +kernel
theorem dX7_readsOrder_47 : decode cX7_readsOrder 47 = .ok (.iconst 0, 1) := by decide +kernel
theorem dX7_readsOrder_48 : decode cX7_readsOrder 48 = .ok (.putfield 158, 3) := by decide +kernel
theorem dX7_readsOrder_51 : decode cX7_readsOrder 51 = .ok (.aload_n 0, 1) := by decide +kernel
theorem dX7_readsOrder_52 : decode cX7_readsOrder 52 = .ok (.dup, 1) := by decide +kernel
theorem dX7_readsOrder_53 : decode cX7_readsOrder 53 = .ok (.getfield 155, 3) := by decide +kernel
theorem dX7_readsOrder_56 : decode cX7_readsOrder 56 = .ok (.aload_n 0, 1) := by decide +kernel
theorem dX7_readsOrder_57 : decode cX7_readsOrder 57 = .ok (.getfield 158, 3) := by decide +kernel
theorem dX7_readsOrder_60 : decode cX7_readsOrder 60 = .ok (.ifCond .eq 7, 3) := by decide +kernel
theorem dX7_readsOrder_63 : decode cX7_readsOrder 63 = .ok (.iconst 1, 1) := by decide +kernel
theorem dX7_readsOrder_64 : decode cX7_readsOrder 64 = .ok (.goto 4, 3) := by decide +kernel
theorem dX7_readsOrder_67 : decode cX7_readsOrder 67 = .ok (.iconst 0, 1) := by decide +kernel
theorem dX7_readsOrder_68 : decode cX7_readsOrder 68 = .ok (.iadd, 1) := by decide +kernel
theorem dX7_readsOrder_69 : decode cX7_readsOrder 69 = .ok (.putfield 155, 3) := by decide +kernel
theorem dX7_readsOrder_72 : decode cX7_readsOrder 72 = .ok (.aload_n 0, 1) := by decide +kernel
theorem dX7_readsOrder_73 : decode cX7_readsOrder 73 = .ok (.getfield 40, 3) := by decide +kernel
theorem dX7_readsOrder_76 : decode cX7_readsOrder 76 = .ok (.iload_n 1, 1) := by decide +kernel
theorem dX7_readsOrder_77 : decode cX7_readsOrder 77 = .ok (.iload_n 2, 1) := by decide +kernel
theorem dX7_readsOrder_78 : decode cX7_readsOrder 78 = .ok (.iastore, 1) := by decide +kernel
theorem dX7_readsOrder_79 : decode cX7_readsOrder 79 = .ok (.aload_n 0, 1) := by decide +kernel
theorem dX7_readsOrder_80 : decode cX7_readsOrder 80 = .ok (.getfield 158, 3) := by decide +kernel
theorem dX7_readsOrder_83 : decode cX7_readsOrder 83 = .ok (.ifCond .eq 57, 3) := by decide +kernel
theorem dX7_readsOrder_86 : decode cX7_readsOrder 86 = .ok (.aload_n 0, 1) := by decide +kernel
theorem dX7_readsOrder_87 : decode cX7_readsOrder 87 = .ok (.iload_n 2, 1) := by decide +kernel
theorem dX7_readsOrder_88 : decode cX7_readsOrder 88 = .ok (.invokevirtual 176, 3) := by decide +kernel
theorem dX7_readsOrder_91 : decode cX7_readsOrder 91 = .ok (.iload_n 2, 1) := by decide +kernel
theorem dX7_readsOrder_92 : decode cX7_readsOrder 92 = .ok (.bipush 108, 2) := by decide +kernel
theorem dX7_readsOrder_94 : decode cX7_readsOrder 94 = .ok (.if_icmp .ne 8, 3) := by decide +kernel
theorem dX7_readsOrder_97 : decode cX7_readsOrder 97 = .ok (.bipush 15, 2) := by decide +kernel
theorem dX7_readsOrder_99 : decode cX7_readsOrder 99 = .ok (.goto 16, 3) := by decide +kernel
theorem dX7_readsOrder_102 : decode cX7_readsOrder 102 = .ok (.iload_n 2, 1) := by decide +kernel
theorem dX7_readsOrder_103 : decode cX7_readsOrder 103 = .ok (.bipush 112, 2) := by decide +kernel
theorem dX7_readsOrder_105 : decode cX7_readsOrder 105 = .ok (.if_icmp .ne 8, 3) := by decide +kernel
theorem dX7_readsOrder_108 : decode cX7_readsOrder 108 = .ok (.bipush 99, 2) := by decide +kernel
theorem dX7_readsOrder_110 : decode cX7_readsOrder 110 = .ok (.goto 5, 3) := by decide +kernel
theorem dX7_readsOrder_113 : decode cX7_readsOrder 113 = .ok (.bipush 9, 2) := by decide +kernel
theorem dX7_readsOrder_115 : decode cX7_readsOrder 115 = .ok (.istore_n 3, 1) := by decide +kernel
theorem dX7_readsOrder_116 : decode cX7_readsOrder 116 = .ok (.aload_n 0, 1) := by decide +kernel
theorem dX7_readsOrder_117 : decode cX7_readsOrder 117 = .ok (.getfield 40, 3) := by decide +kernel
theorem dX7_readsOrder_120 : decode cX7_readsOrder 120 = .ok (.iload_n 1, 1) := by decide +kernel
theorem dX7_readsOrder_121 : decode cX7_readsOrder 121 = .ok (.iconst 1, 1) := by decide +kernel
theorem dX7_readsOrder_122 : decode cX7_readsOrder 122 = .ok (.iadd, 1) := by decide +kernel
theorem dX7_readsOrder_123 : decode cX7_readsOrder 123 = .ok (.aload_n 0, 1) := by decide +kernel
theorem dX7_readsOrder_124 : decode cX7_readsOrder 124 = .ok (.iload_n 2, 1) := by decide +kernel
theorem dX7_readsOrder_125 : decode cX7_readsOrder 125 = .ok (.bipush 112, 2) := by decide +kernel
theorem dX7_readsOrder_127 : decode cX7_readsOrder 127 = .ok (.if_icmp .ne 7, 3) := by decide +kernel
theorem dX7_readsOrder_130 : decode cX7_readsOrder 130 = .ok (.iconst 1, 1) := by decide +kernel
theorem dX7_readsOrder_131 : decode cX7_readsOrder 131 = .ok (.goto 4, 3) := by decide +kernel
theorem dX7_readsOrder_134 : decode cX7_readsOrder 134 = .ok (.iconst 0, 1) := by decide +kernel
theorem dX7_readsOrder_135 : decode cX7_readsOrder 135 = .ok (.iload_n 3, 1) := by decide +kernel
theorem dX7_readsOrder_136 : decode cX7_readsOrder 136 = .ok (.invokevirtual 179, 3) := by decide +kernel
theorem dX7_readsOrder_139 : decode cX7_readsOrder 139 = .ok (.iastore, 1) := by decide +kernel
theorem dX7_readsOrder_140 : decode cX7_readsOrder 140 = .ok (.aload_n 0, 1) := by decide +kernel
theorem dX7_readsOrder_141 : decode cX7_readsOrder 141 = .ok (.getfield 158, 3) := by decide +kernel
theorem dX7_readsOrder_144 : decode cX7_readsOrder 144 = .ok (.ifCond .eq 59, 3) := by decide +kernel
theorem dX7_readsOrder_147 : decode cX7_readsOrder 147 = .ok (.iload_n 2, 1) := by decide +kernel
theorem dX7_readsOrder_148 : decode cX7_readsOrder 148 = .ok (.bipush 112, 2) := by decide +kernel
theorem dX7_readsOrder_150 : decode cX7_readsOrder 150 = .ok (.if_icmp .eq 53, 3) := by decide +kernel
theorem dX7_readsOrder_153 : decode cX7_readsOrder 153 = .ok (.iload_n 2, 1) := by decide +kernel
theorem dX7_readsOrder_154 : decode cX7_readsOrder 154 = .ok (.bipush 108, 2) := by decide +kernel
theorem dX7_readsOrder_156 : decode cX7_readsOrder 156 = .ok (.if_icmp .ne 9, 3) := by decide +kernel
theorem dX7_readsOrder_159 : decode cX7_readsOrder 159 = .ok (.sipush 399, 3) := by decide +kernel
theorem dX7_readsOrder_162 : decode cX7_readsOrder 162 = .ok (.goto 16, 3) := by decide +kernel
theorem dX7_readsOrder_165 : decode cX7_readsOrder 165 = .ok (.iload_n 2, 1) := by decide +kernel
theorem dX7_readsOrder_166 : decode cX7_readsOrder 166 = .ok (.bipush 100, 2) := by decide +kernel
theorem dX7_readsOrder_168 : decode cX7_readsOrder 168 = .ok (.if_icmp .ne 8, 3) := by decide +kernel
theorem dX7_readsOrder_171 : decode cX7_readsOrder 171 = .ok (.bipush 60, 2) := by decide +kernel
theorem dX7_readsOrder_173 : decode cX7_readsOrder 173 = .ok (.goto 5, 3) := by decide +kernel
theorem dX7_readsOrder_176 : decode cX7_readsOrder 176 = .ok (.bipush 15, 2) := by decide +kernel
theorem dX7_readsOrder_178 : decode cX7_readsOrder 178 = .ok (.istore_n 3, 1) := by decide +kernel
theorem dX7_readsOrder_179 : decode cX7_readsOrder 179 = .ok (.aload_n 0, 1) := by decide +kernel
theorem dX7_readsOrder_180 : decode cX7_readsOrder 180 = .ok (.getfield 40, 3) := by decide +kernel
theorem dX7_readsOrder_183 : decode cX7_readsOrder 183 = .ok (.iload_n 1, 1) := by decide +kernel
theorem dX7_readsOrder_184 : decode cX7_readsOrder 184 = .ok (.iconst 2, 1) := by decide +kernel
theorem dX7_readsOrder_185 : decode cX7_readsOrder 185 = .ok (.iadd, 1) := by decide +kernel
theorem dX7_readsOrder_186 : decode cX7_readsOrder 186 = .ok (.aload_n 0, 1) := by decide +kernel
theorem dX7_readsOrder_187 : decode cX7_readsOrder 187 = .ok (.iload_n 2, 1) := by decide +kernel
theorem dX7_readsOrder_188 : decode cX7_readsOrder 188 = .ok (.bipush 100, 2) := by decide +kernel
theorem dX7_readsOrder_190 : decode cX7_readsOrder 190 = .ok (.if_icmp .ne 7, 3) := by decide +kernel
theorem dX7_readsOrder_193 : decode cX7_readsOrder 193 = .ok (.iconst 1, 1) := by decide +kernel
theorem dX7_readsOrder_194 : decode cX7_readsOrder 194 = .ok (.goto 4, 3) := by decide +kernel
theorem dX7_readsOrder_197 : decode cX7_readsOrder 197 = .ok (.iconst 0, 1) := by decide +kernel
theorem dX7_readsOrder_198 : decode cX7_readsOrder 198 = .ok (.iload_n 3, 1) := by decide +kernel
theorem dX7_readsOrder_199 : decode cX7_readsOrder 199 = .ok (.invokevirtual 179, 3) := by decide +kernel
theorem dX7_readsOrder_202 : decode cX7_readsOrder 202 = .ok (.iastore, 1) := by decide +kernel
theorem dX7_readsOrder_203 : decode cX7_readsOrder 203 = .ok (.aload_n 0, 1) := by decide +kernel
theorem dX7_readsOrder_204 : decode cX7_readsOrder 204 = .ok (.getfield 158, 3) := by decide +kernel
theorem dX7_readsOrder_207 : decode cX7_readsOrder 207 = .ok (.ifCond .eq 25, 3) := by decide +kernel
theorem dX7_readsOrder_210 : decode cX7_readsOrder 210 = .ok (.iload_n 2, 1) := by decide +kernel
theorem dX7_readsOrder_211 : decode cX7_readsOrder 211 = .ok (.bipush 108, 2) := by decide +kernel
theorem dX7_readsOrder_213 : decode cX7_readsOrder 213 = .ok (.if_icmp .ne 19, 3) := by decide +kernel
theorem dX7_readsOrder_216 : decode cX7_readsOrder 216 = .ok (.aload_n 0, 1) := by decide +kernel
theorem dX7_readsOrder_217 : decode cX7_readsOrder 217 = .ok (.getfield 40, 3) := by decide +kernel
theorem dX7_readsOrder_220 : decode cX7_readsOrder 220 = .ok (.iload_n 1, 1) := by decide +kernel
theorem dX7_readsOrder_221 : decode cX7_readsOrder 221 = .ok (.iconst 3, 1) := by decide +kernel
theorem dX7_readsOrder_222 : decode cX7_readsOrder 222 = .ok (.iadd, 1) := by decide +kernel
theorem dX7_readsOrder_223 : decode cX7_readsOrder 223 = .ok (.aload_n 0, 1) := by decide +kernel
theorem dX7_readsOrder_224 : decode cX7_readsOrder 224 = .ok (.iconst 0, 1) := by decide +kernel
theorem dX7_readsOrder_225 : decode cX7_readsOrder 225 = .ok (.sipush 399, 3) := by decide +kernel
theorem dX7_readsOrder_228 : decode cX7_readsOrder 228 = .ok (.invokevirtual 179, 3) := by decide +kernel
theorem dX7_readsOrder_231 : decode cX7_readsOrder 231 = .ok (.iastore, 1) := by decide +kernel
theorem dX7_readsOrder_232 : decode cX7_readsOrder 232 = .ok (.aload_n 0, 1) := by decide +kernel
theorem dX7_readsOrder_233 : decode cX7_readsOrder 233 = .ok (.dup, 1) := by decide +kernel
theorem dX7_readsOrder_234 : decode cX7_readsOrder 234 = .ok (.getfield 173, 3) := by decide +kernel
theorem dX7_readsOrder_237 : decode cX7_readsOrder 237 = .ok (.aload_n 0, 1) := by decide +kernel
theorem dX7_readsOrder_238 : decode cX7_readsOrder 238 = .ok (.getfield 158, 3) := by decide +kernel
theorem dX7_readsOrder_241 : decode cX7_readsOrder 241 = .ok (.ifCond .eq 7, 3) := by decide +kernel
theorem dX7_readsOrder_244 : decode cX7_readsOrder 244 = .ok (.iconst 1, 1) := by decide +kernel
theorem dX7_readsOrder_245 : decode cX7_readsOrder 245 = .ok (.goto 4, 3) := by decide +kernel
theorem dX7_readsOrder_248 : decode cX7_readsOrder 248 = .ok (.iconst 0, 1) := by decide +kernel
theorem dX7_readsOrder_249 : decode cX7_readsOrder 249 = .ok (.iadd, 1) := by decide +kernel
theorem dX7_readsOrder_250 : decode cX7_readsOrder 250 = .ok (.putfield 173, 3) := by decide +kernel
theorem dX7_readsOrder_253 : decode cX7_readsOrder 253 = .ok (.return_, 1) := by decide +kernel
set_option maxRecDepth 20000 in
theorem ggX7_reads_X7_readsOrder : GoodIn wsX7_reads wsX7_readsOrder := goodIn_r _ [9, 2, 3, 1, 10, 11, 12, 13, 8, 14, 4, 15, 16, 17, 18, 19, 20, 21, 22, 23, 24, 25, 26, 27, 28, 29, 30, 31, 32, 33, 34, 35, 36, 37, 38, 39, 40, 41, 42, 43, 44, 45, 46, 47, 48, 49, 50, 51, 52, 53, 54] (by decide +kernel) (by decide +kernel)
set_option maxRecDepth 20000 in
theorem gX7_reads_X7_readsOrder : GoodIn wsX7_reads (wsV RX7 182 RX7 yX7_readsOrder wsX7_readsOrder) := goodIn_app (goodIn_of _ (by decide +kernel)) ggX7_reads_X7_readsOrder
set_option maxRecDepth 20000 in
theorem ggX7_reads_X7_wants : GoodIn wsX7_reads wsX7_wants := goodIn_r _ [27, 3, 1, 11, 12, 13, 8, 14, 4, 15, 35, 36, 37, 38, 39, 40, 41, 42, 43, 44, 45, 46, 47, 48, 49, 50, 51, 52, 53, 54] (by decide +kernel) (by decide +kernel)
set_option maxRecDepth 20000 in
theorem gX7_reads_X7_wants : GoodIn wsX7_reads (wsV RX7 166 RX7 yX7_wants wsX7_wants) := goodIn_app (goodIn_of _ (by decide +kernel)) ggX7_reads_X7_wants
theorem dX7_reads_0 : decode cX7_reads 0 = .ok (.aload_n 0, 1) := by decide +kernel
theorem dX7_reads_1 : decode cX7_reads 1 = .ok (.iconst 0, 1) := by decide +kernel
theorem dX7_reads_2 : decode cX7_reads 2 = .ok (.putfield 155, 3) := by decide +kernel
theorem dX7_reads_5 : decode cX7_reads 5 = .ok (.aload_n 0, 1) := by decide +kernel
theorem dX7_reads_6 : decode cX7_reads 6 = .ok (.iconst 0, 1) := by decide +kernel
theorem dX7_reads_7 : decode cX7_reads 7 = .ok (.putfield 173, 3) := by decide +kernel
theorem dX7_reads_10 : decode cX7_reads 10 = .ok (.aload_n 0, 1) := by decide +kernel
theorem dX7_reads_11 : decode cX7_reads 11 = .ok (.invokevirtual 182, 3) := by decide +kernel
theorem dX7_reads_14 : decode cX7_reads 14 = .ok (.aload_n 0, 1) := by decide +kernel
theorem dX7_reads_15 : decode cX7_reads 15 = .ok (.getfield 158, 3) := by decide +kernel
theorem dX7_reads_18 : decode cX7_reads 18 = .ok (.ifCond .eq 34, 3) := by decide +kernel
theorem dX7_reads_21 : decode cX7_reads 21 = .ok (.aload_n 0, 1) := by decide +kernel
theorem dX7_reads_22 : decode cX7_reads 22 = .ok (.getfield 155, 3) := by decide +kernel
theorem dX7_reads_25 : decode cX7_reads 25 = .ok (.aload_n 0, 1) := by decide +kernel
theorem dX7_reads_26 : decode cX7_reads 26 = .ok (.getfield 152, 3) := by decide +kernel
theorem dX7_reads_29 : decode cX7_reads 29 = .ok (.if_icmp .ge 23, 3) := by decide +kernel
theorem dX7_reads_32 : decode cX7_reads 32 = .ok (.aload_n 0, 1) := by decide +kernel
theorem dX7_reads_33 : decode cX7_reads 33 = .ok (.bipush 59, 2) := by decide +kernel
theorem dX7_reads_35 : decode cX7_reads 35 = .ok (.invokevirtual 166, 3) := by decide +kernel
theorem dX7_reads_38 : decode cX7_reads 38 = .ok (.aload_n 0, 1) := by decide +kernel
theorem dX7_reads_39 : decode cX7_reads 39 = .ok (.getfield 158, 3) := by decide +kernel
theorem dX7_reads_42 : decode cX7_reads 42 = .ok (.ifCond .eq (-28), 3) := by decide +kernel
theorem dX7_reads_45 : decode cX7_reads 45 = .ok (.aload_n 0, 1) := by decide +kernel
theorem dX7_reads_46 : decode cX7_reads 46 = .ok (.invokevirtual 182, 3) := by decide +kernel
theorem dX7_reads_49 : decode cX7_reads 49 = .ok (.goto (-35), 3) := by decide +kernel
theorem dX7_reads_52 : decode cX7_reads 52 = .ok (.aload_n 0, 1) := by decide +kernel
theorem dX7_reads_53 : decode cX7_reads 53 = .ok (.getfield 158, 3) := by decide +kernel
theorem dX7_reads_56 : decode cX7_reads 56 = .ok (.ifCond .eq 8, 3) := by decide +kernel
theorem dX7_reads_59 : decode cX7_reads 59 = .ok (.bipush (-5), 2) := by decide +kernel
theorem dX7_reads_61 : decode cX7_reads 61 = .ok (.goto 7, 3) := by decide +kernel
theorem dX7_reads_64 : decode cX7_reads 64 = .ok (.aload_n 0, 1) := by decide +kernel
theorem dX7_reads_65 : decode cX7_reads 65 = .ok (.getfield 155, 3) := by decide +kernel
theorem dX7_reads_68 : decode cX7_reads 68 = .ok (.ireturn, 1) := by decide +kernel
set_option maxRecDepth 20000 in
theorem ggX7_enlistsIf_X7_refusesEnlisting : GoodIn wsX7_enlistsIf wsX7_refusesEnlisting := goodIn_r _ [5, 6, 7, 4, 8, 9, 10, 11, 12, 13, 14, 15, 16, 17, 18, 19, 20, 21, 22, 23, 32, 33, 34, 35, 36, 37, 38, 39, 40, 41, 42, 43, 44, 45, 46, 47, 48, 49, 50, 51] (by decide +kernel) (by decide +kernel)
set_option maxRecDepth 20000 in
theorem gX7_enlistsIf_X7_refusesEnlisting : GoodIn wsX7_enlistsIf (wsV RX7 99 RX7 yX7_refusesEnlisting wsX7_refusesEnlisting) := goodIn_app (goodIn_of _ (by decide +kernel)) ggX7_enlistsIf_X7_refusesEnlisting
set_option maxRecDepth 20000 in
theorem ggX7_enlistsIf_X7_enlists : GoodIn wsX7_enlistsIf wsX7_enlists := goodIn_r _ [27, 19, 20, 21, 4, 22, 23, 28, 29, 30, 31, 32, 33, 34, 35, 36, 37, 38, 39, 40, 41, 42, 43, 44, 45, 46, 47, 48, 49, 50, 51] (by decide +kernel) (by decide +kernel)
set_option maxRecDepth 20000 in
theorem gX7_enlistsIf_X7_enlists : GoodIn wsX7_enlistsIf (wsV RX7 105 RX7 yX7_enlists wsX7_enlists) := goodIn_app (goodIn_of _ (by decide +kernel)) ggX7_enlistsIf_X7_enlists
theorem dX7_enlistsIf_0 : decode cX7_enlistsIf 0 = .ok (.aload_n 0, 1) := by decide +kernel
theorem dX7_enlistsIf_1 : decode cX7_enlistsIf 1 = .ok (.iload_n 1, 1) := by decide +kernel
theorem dX7_enlistsIf_2 : decode cX7_enlistsIf 2 = .ok (.iload_n 2, 1) := by decide +kernel
theorem dX7_enlistsIf_3 : decode cX7_enlistsIf 3 = .ok (.invokevirtual 99, 3) := by decide +kernel
theorem dX7_enlistsIf_6 : decode cX7_enlistsIf 6 = .ok (.istore_n 3, 1) := by decide +kernel
theorem dX7_enlistsIf_7 : decode cX7_enlistsIf 7 = .ok (.iload_n 3, 1) := by decide +kernel
theorem dX7_enlistsIf_8 : decode cX7_enlistsIf 8 = .ok (.ifCond .ne 10, 3) := by decide +kernel
theorem dX7_enlistsIf_11 : decode cX7_enlistsIf 11 = .ok (.aload_n 0, 1) := by decide +kernel
theorem dX7_enlistsIf_12 : decode cX7_enlistsIf 12 = .ok (.iload_n 1, 1) := by decide +kernel
theorem dX7_enlistsIf_13 : decode cX7_enlistsIf 13 = .ok (.iload_n 2, 1) := by decide +kernel
theorem dX7_enlistsIf_14 : decode cX7_enlistsIf 14 = .ok (.invokevirtual 105, 3) := by decide +kernel
theorem dX7_enlistsIf_17 : decode cX7_enlistsIf 17 = .ok (.pop, 1) := by decide +kernel
theorem dX7_enlistsIf_18 : decode cX7_enlistsIf 18 = .ok (.iload_n 3, 1) := by decide +kernel
theorem dX7_enlistsIf_19 : decode cX7_enlistsIf 19 = .ok (.ireturn, 1) := by decide +kernel
set_option maxRecDepth 20000 in
theorem ggX7_leavesIf_X7_refusesLeave : GoodIn wsX7_leavesIf wsX7_refusesLeave := goodIn_r _ [5, 6, 7, 8, 9, 4, 10, 11, 12, 13, 14, 15, 16, 17, 18, 19, 20, 21, 22, 23, 24, 25, 26, 27, 28, 29, 30, 31, 32, 33, 34, 35, 36, 37, 38, 39, 40, 41, 42, 43, 44, 45, 46, 47, 48, 49, 50, 51, 52, 53, 54, 55, 56, 57, 58, 59, 60, 61, 62, 63, 64, 65, 66, 67, 68, 69, 70, 71, 72, 73, 74, 75, 76, 77, 78, 79, 80, 81, 82, 83, 84, 85, 86, 87, 88, 89, 90, 91, 92, 93, 94, 95, 96, 97, 98, 99, 100] (by decide +kernel) (by decide +kernel)
set_option maxRecDepth 20000 in
theorem gX7_leavesIf_X7_refusesLeave : GoodIn wsX7_leavesIf (wsV RX7 137 RX7 yX7_refusesLeave wsX7_refusesLeave) := goodIn_app (goodIn_of _ (by decide +kernel)) ggX7_leavesIf_X7_refusesLeave
set_option maxRecDepth 20000 in
theorem ggX7_leavesIf_X7_grants : GoodIn wsX7_leavesIf wsX7_grants := goodIn_r _ [76, 6, 81, 82, 83, 84, 85, 86, 87, 88, 89, 90, 91, 92, 93, 94, 95, 96, 97, 98, 99, 100] (by decide +kernel) (by decide +kernel)
set_option maxRecDepth 20000 in
theorem gX7_leavesIf_X7_grants : GoodIn wsX7_leavesIf (wsV RX7 121 RX7 yX7_grants wsX7_grants) := goodIn_app (goodIn_of _ (by decide +kernel)) ggX7_leavesIf_X7_grants
theorem dX7_leavesIf_0 : decode cX7_leavesIf 0 = .ok (.aload_n 0, 1) := by decide +kernel
theorem dX7_leavesIf_1 : decode cX7_leavesIf 1 = .ok (.iload_n 1, 1) := by decide +kernel
theorem dX7_leavesIf_2 : decode cX7_leavesIf 2 = .ok (.iload_n 2, 1) := by decide +kernel
theorem dX7_leavesIf_3 : decode cX7_leavesIf 3 = .ok (.iload_n 3, 1) := by decide +kernel
theorem dX7_leavesIf_4 : decode cX7_leavesIf 4 = .ok (.invokevirtual 137, 3) := by decide +kernel
theorem dX7_leavesIf_7 : decode cX7_leavesIf 7 = .ok (.istore 4, 2) := by decide +kernel
theorem dX7_leavesIf_9 : decode cX7_leavesIf 9 = .ok (.iload 4, 2) := by decide +kernel
theorem dX7_leavesIf_11 : decode cX7_leavesIf 11 = .ok (.ifCond .ne 10, 3) := by decide +kernel
theorem dX7_leavesIf_14 : decode cX7_leavesIf 14 = .ok (.aload_n 0, 1) := by decide +kernel
theorem dX7_leavesIf_15 : decode cX7_leavesIf 15 = .ok (.iload_n 1, 1) := by decide +kernel
theorem dX7_leavesIf_16 : decode cX7_leavesIf 16 = .ok (.iload_n 2, 1) := by decide +kernel
theorem dX7_leavesIf_17 : decode cX7_leavesIf 17 = .ok (.iload_n 3, 1) := by decide +kernel
theorem dX7_leavesIf_18 : decode cX7_leavesIf 18 = .ok (.invokevirtual 121, 3) := by decide +kernel
theorem dX7_leavesIf_21 : decode cX7_leavesIf 21 = .ok (.iload 4, 2) := by decide +kernel
theorem dX7_leavesIf_23 : decode cX7_leavesIf 23 = .ok (.ireturn, 1) := by decide +kernel
set_option maxRecDepth 20000 in
theorem ggX7_drillsIf_X7_refusesDrill : GoodIn wsX7_drillsIf wsX7_refusesDrill := goodIn_r _ [5, 6, 7, 8, 4, 9, 10, 11, 12, 13, 14, 15, 16, 17, 18, 19, 20, 21, 22, 23, 24, 25, 26, 27, 28, 29, 30, 31, 32, 33, 34, 35, 36, 37, 38, 39, 40, 41, 42, 43, 44, 45, 46, 47, 48, 49, 50, 51, 52, 53, 54, 55, 56, 65, 66, 67, 68, 69, 70, 71, 72, 73, 74, 75, 76, 77, 78, 79, 80, 81, 82, 83, 84] (by decide +kernel) (by decide +kernel)
set_option maxRecDepth 20000 in
theorem gX7_drillsIf_X7_refusesDrill : GoodIn wsX7_drillsIf (wsV RX7 140 RX7 yX7_refusesDrill wsX7_refusesDrill) := goodIn_app (goodIn_of _ (by decide +kernel)) ggX7_drillsIf_X7_refusesDrill
set_option maxRecDepth 20000 in
theorem ggX7_drillsIf_X7_drills : GoodIn wsX7_drillsIf wsX7_drills := goodIn_r _ [60, 48, 6, 24, 25, 26, 4, 27, 61, 62, 63, 64, 65, 66, 67, 68, 69, 70, 71, 72, 73, 74, 75, 76, 77, 78, 79, 80, 81, 82, 83, 84] (by decide +kernel) (by decide +kernel)
set_option maxRecDepth 20000 in
theorem gX7_drillsIf_X7_drills : GoodIn wsX7_drillsIf (wsV RX7 143 RX7 yX7_drills wsX7_drills) := goodIn_app (goodIn_of _ (by decide +kernel)) ggX7_drillsIf_X7_drills
