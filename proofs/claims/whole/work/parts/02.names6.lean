theorem dX7_drillsIf_0 : decode cX7_drillsIf 0 = .ok (.aload_n 0, 1) := by decide +kernel
theorem dX7_drillsIf_1 : decode cX7_drillsIf 1 = .ok (.iload_n 1, 1) := by decide +kernel
theorem dX7_drillsIf_2 : decode cX7_drillsIf 2 = .ok (.iload_n 2, 1) := by decide +kernel
theorem dX7_drillsIf_3 : decode cX7_drillsIf 3 = .ok (.invokevirtual 140, 3) := by decide +kernel
theorem dX7_drillsIf_6 : decode cX7_drillsIf 6 = .ok (.istore_n 3, 1) := by decide +kernel
theorem dX7_drillsIf_7 : decode cX7_drillsIf 7 = .ok (.iload_n 3, 1) := by decide +kernel
theorem dX7_drillsIf_8 : decode cX7_drillsIf 8 = .ok (.ifCond .ne 10, 3) := by decide +kernel
theorem dX7_drillsIf_11 : decode cX7_drillsIf 11 = .ok (.aload_n 0, 1) := by decide +kernel
theorem dX7_drillsIf_12 : decode cX7_drillsIf 12 = .ok (.iload_n 1, 1) := by decide +kernel
theorem dX7_drillsIf_13 : decode cX7_drillsIf 13 = .ok (.iload_n 2, 1) := by decide +kernel
theorem dX7_drillsIf_14 : decode cX7_drillsIf 14 = .ok (.invokevirtual 143, 3) := by decide +kernel
theorem dX7_drillsIf_17 : decode cX7_drillsIf 17 = .ok (.pop, 1) := by decide +kernel
theorem dX7_drillsIf_18 : decode cX7_drillsIf 18 = .ok (.iload_n 3, 1) := by decide +kernel
theorem dX7_drillsIf_19 : decode cX7_drillsIf 19 = .ok (.ireturn, 1) := by decide +kernel
set_option maxRecDepth 20000 in
theorem ggX7_does_X7_enlistsIf : GoodIn wsX7_does wsX7_enlistsIf := goodIn_r _ [7, 8, 9, 10, 6, 11, 12, 13, 14, 15, 16, 17, 18, 19, 20, 21, 22, 23, 24, 25, 26, 27, 28, 2, 29, 30, 31, 32, 33, 34, 35, 36, 129, 130, 131, 132, 133, 134, 135, 136, 137, 138, 139, 140, 141, 142, 143, 144, 145, 146, 147, 148] (by decide +kernel) (by decide +kernel)
set_option maxRecDepth 20000 in
theorem gX7_does_X7_enlistsIf : GoodIn wsX7_does (wsV RX7 185 RX7 yX7_enlistsIf wsX7_enlistsIf) := goodIn_app (goodIn_of _ (by decide +kernel)) ggX7_does_X7_enlistsIf
set_option maxRecDepth 20000 in
theorem ggX7_does_X7_placeIn : GoodIn wsX7_does wsX7_placeIn := goodIn_r _ [24, 25, 26, 27, 6, 28, 2, 129, 130, 131, 132, 133, 134, 135, 136, 137, 138, 139, 140, 141, 142, 143, 144, 145, 146, 147, 148] (by decide +kernel) (by decide +kernel)
set_option maxRecDepth 20000 in
theorem gX7_does_X7_placeIn : GoodIn wsX7_does (wsV RX7 96 RX7 yX7_placeIn wsX7_placeIn) := goodIn_app (goodIn_of _ (by decide +kernel)) ggX7_does_X7_placeIn
set_option maxRecDepth 20000 in
theorem ggX7_does_X7_strikes : GoodIn wsX7_does wsX7_strikes := goodIn_r _ [40, 21, 22, 23, 6, 24, 25, 26, 27, 28, 2, 33, 34, 35, 36, 129, 130, 131, 132, 133, 134, 135, 136, 137, 138, 139, 140, 141, 142, 143, 144, 145, 146, 147, 148] (by decide +kernel) (by decide +kernel)
set_option maxRecDepth 20000 in
theorem gX7_does_X7_strikes : GoodIn wsX7_does (wsV RX7 108 RX7 yX7_strikes wsX7_strikes) := goodIn_app (goodIn_of _ (by decide +kernel)) ggX7_does_X7_strikes
set_option maxRecDepth 20000 in
theorem ggX7_does_X7_leavesIf : GoodIn wsX7_does wsX7_leavesIf := goodIn_r _ [44, 45, 46, 47, 6, 48, 2, 49, 50, 51, 52, 18, 19, 20, 15, 16, 17, 53, 54, 55, 56, 57, 58, 59, 60, 61, 62, 63, 64, 65, 66, 67, 68, 69, 70, 71, 72, 73, 74, 75, 76, 77, 78, 79, 25, 26, 27, 28, 80, 81, 82, 83, 84, 85, 86, 87, 88, 89, 90, 91, 92, 93, 94, 95, 96, 97, 98, 99, 100, 101, 102, 103, 104, 105, 106, 107, 108, 109, 110, 111, 112, 129, 130, 131, 132, 133, 134, 135, 136, 137, 138, 139, 140, 141, 142, 143, 144, 145, 146, 147, 148] (by decide +kernel) (by decide +kernel)
set_option maxRecDepth 20000 in
theorem gX7_does_X7_leavesIf : GoodIn wsX7_does (wsV RX7 188 RX7 yX7_leavesIf wsX7_leavesIf) := goodIn_app (goodIn_of _ (by decide +kernel)) ggX7_does_X7_leavesIf
set_option maxRecDepth 20000 in
theorem ggX7_does_X7_drillsIf : GoodIn wsX7_does wsX7_drillsIf := goodIn_r _ [116, 117, 118, 119, 6, 120, 2, 12, 13, 14, 15, 16, 17, 69, 70, 71, 72, 73, 74, 75, 76, 77, 78, 79, 25, 26, 27, 28, 80, 81, 82, 83, 84, 85, 86, 87, 88, 89, 90, 91, 60, 61, 62, 63, 92, 93, 94, 95, 96, 97, 98, 99, 100, 101, 102, 103, 104, 121, 122, 123, 124, 33, 34, 35, 36, 129, 130, 131, 132, 133, 134, 135, 136, 137, 138, 139, 140, 141, 142, 143, 144, 145, 146, 147, 148] (by decide +kernel) (by decide +kernel)
set_option maxRecDepth 20000 in
theorem gX7_does_X7_drillsIf : GoodIn wsX7_does (wsV RX7 191 RX7 yX7_drillsIf wsX7_drillsIf) := goodIn_app (goodIn_of _ (by decide +kernel)) ggX7_does_X7_drillsIf
set_option maxRecDepth 20000 in
theorem ggX7_does_X7_refusesPass : GoodIn wsX7_does wsX7_refusesPass := goodIn_r _ [128, 2, 15, 16, 6, 17, 129, 130, 131, 132, 133, 134, 135, 136, 137, 138, 139, 140, 141, 142, 143, 144, 145, 146, 147, 148] (by decide +kernel) (by decide +kernel)
set_option maxRecDepth 20000 in
theorem gX7_does_X7_refusesPass : GoodIn wsX7_does (wsV RX7 146 RX7 yX7_refusesPass wsX7_refusesPass) := goodIn_app (goodIn_of _ (by decide +kernel)) ggX7_does_X7_refusesPass
theorem dX7_does_0 : decode cX7_does 0 = .ok (.aload_n 0, 1) := by decide +kernel
theorem dX7_does_1 : decode cX7_does 1 = .ok (.getfield 40, 3) := by decide +kernel
theorem dX7_does_4 : decode cX7_does 4 = .ok (.iload_n 1, 1) := by decide +kernel
theorem dX7_does_5 : decode cX7_does 5 = .ok (.iconst 1, 1) := by decide +kernel
theorem dX7_does_6 : decode cX7_does 6 = .ok (.iadd, 1) := by decide +kernel
theorem dX7_does_7 : decode cX7_does 7 = .ok (.iaload, 1) := by decide +kernel
theorem dX7_does_8 : decode cX7_does 8 = .ok (.istore_n 2, 1) := by decide +kernel
theorem dX7_does_9 : decode cX7_does 9 = .ok (.aload_n 0, 1) := by decide +kernel
theorem dX7_does_10 : decode cX7_does 10 = .ok (.getfield 40, 3) := by decide +kernel
theorem dX7_does_13 : decode cX7_does 13 = .ok (.iload_n 1, 1) := by decide +kernel
theorem dX7_does_14 : decode cX7_does 14 = .ok (.iconst 2, 1) := by decide +kernel
theorem dX7_does_15 : decode cX7_does 15 = .ok (.iadd, 1) := by decide +kernel
theorem dX7_does_16 : decode cX7_does 16 = .ok (.iaload, 1) := by decide +kernel
theorem dX7_does_17 : decode cX7_does 17 = .ok (.istore_n 3, 1) := by decide +kernel
theorem dX7_does_18 : decode cX7_does 18 = .ok (.aload_n 0, 1) := by decide +kernel
theorem dX7_does_19 : decode cX7_does 19 = .ok (.getfield 40, 3) := by decide +kernel
theorem dX7_does_22 : decode cX7_does 22 = .ok (.iload_n 1, 1) := by decide +kernel
theorem dX7_does_23 : decode cX7_does 23 = .ok (.iaload, 1) := by decide +kernel
theorem dX7_does_24 : decode cX7_does 24 = .ok (.lookupswitch 93 #[(100, 86), (108, 71), (111, 51), (114, 44)], 44) := by decide +kernel
theorem dX7_does_68 : decode cX7_does 68 = .ok (.aload_n 0, 1) := by decide +kernel
theorem dX7_does_69 : decode cX7_does 69 = .ok (.iload_n 2, 1) := by decide +kernel
theorem dX7_does_70 : decode cX7_does 70 = .ok (.iload_n 3, 1) := by decide +kernel
theorem dX7_does_71 : decode cX7_does 71 = .ok (.invokevirtual 185, 3) := by decide +kernel
theorem dX7_does_74 : decode cX7_does 74 = .ok (.ireturn, 1) := by decide +kernel
theorem dX7_does_75 : decode cX7_does 75 = .ok (.aload_n 0, 1) := by decide +kernel
theorem dX7_does_76 : decode cX7_does 76 = .ok (.iload_n 2, 1) := by decide +kernel
theorem dX7_does_77 : decode cX7_does 77 = .ok (.iload_n 3, 1) := by decide +kernel
theorem dX7_does_78 : decode cX7_does 78 = .ok (.invokevirtual 96, 3) := by decide +kernel
theorem dX7_does_81 : decode cX7_does 81 = .ok (.bipush (-5), 2) := by decide +kernel
theorem dX7_does_83 : decode cX7_does 83 = .ok (.if_icmp .eq 10, 3) := by decide +kernel
theorem dX7_does_86 : decode cX7_does 86 = .ok (.aload_n 0, 1) := by decide +kernel
theorem dX7_does_87 : decode cX7_does 87 = .ok (.iload_n 2, 1) := by decide +kernel
theorem dX7_does_88 : decode cX7_does 88 = .ok (.iload_n 3, 1) := by decide +kernel
theorem dX7_does_89 : decode cX7_does 89 = .ok (.invokevirtual 108, 3) := by decide +kernel
theorem dX7_does_92 : decode cX7_does 92 = .ok (.pop, 1) := by decide +kernel
theorem dX7_does_93 : decode cX7_does 93 = .ok (.iconst 0, 1) := by decide +kernel
theorem dX7_does_94 : decode cX7_does 94 = .ok (.ireturn, 1) := by decide +kernel
theorem dX7_does_95 : decode cX7_does 95 = .ok (.aload_n 0, 1) := by decide +kernel
theorem dX7_does_96 : decode cX7_does 96 = .ok (.iload_n 2, 1) := by decide +kernel
theorem dX7_does_97 : decode cX7_does 97 = .ok (.iload_n 3, 1) := by decide +kernel
theorem dX7_does_98 : decode cX7_does 98 = .ok (.aload_n 0, 1) := by decide +kernel
theorem dX7_does_99 : decode cX7_does 99 = .ok (.getfield 40, 3) := by decide +kernel
theorem dX7_does_102 : decode cX7_does 102 = .ok (.iload_n 1, 1) := by decide +kernel
theorem dX7_does_103 : decode cX7_does 103 = .ok (.iconst 3, 1) := by decide +kernel
theorem dX7_does_104 : decode cX7_does 104 = .ok (.iadd, 1) := by decide +kernel
theorem dX7_does_105 : decode cX7_does 105 = .ok (.iaload, 1) := by decide +kernel
theorem dX7_does_106 : decode cX7_does 106 = .ok (.invokevirtual 188, 3) := by decide +kernel
theorem dX7_does_109 : decode cX7_does 109 = .ok (.ireturn, 1) := by decide +kernel
theorem dX7_does_110 : decode cX7_does 110 = .ok (.aload_n 0, 1) := by decide +kernel
theorem dX7_does_111 : decode cX7_does 111 = .ok (.iload_n 2, 1) := by decide +kernel
theorem dX7_does_112 : decode cX7_does 112 = .ok (.iload_n 3, 1) := by decide +kernel
theorem dX7_does_113 : decode cX7_does 113 = .ok (.invokevirtual 191, 3) := by decide +kernel
theorem dX7_does_116 : decode cX7_does 116 = .ok (.ireturn, 1) := by decide +kernel
theorem dX7_does_117 : decode cX7_does 117 = .ok (.aload_n 0, 1) := by decide +kernel
theorem dX7_does_118 : decode cX7_does 118 = .ok (.iload_n 2, 1) := by decide +kernel
theorem dX7_does_119 : decode cX7_does 119 = .ok (.invokevirtual 146, 3) := by decide +kernel
theorem dX7_does_122 : decode cX7_does 122 = .ok (.istore 4, 2) := by decide +kernel
theorem dX7_does_124 : decode cX7_does 124 = .ok (.aload_n 0, 1) := by decide +kernel
theorem dX7_does_125 : decode cX7_does 125 = .ok (.getfield 7, 3) := by decide +kernel
theorem dX7_does_128 : decode cX7_does 128 = .ok (.iconst 3, 1) := by decide +kernel
theorem dX7_does_129 : decode cX7_does 129 = .ok (.dup2, 1) := by decide +kernel
theorem dX7_does_130 : decode cX7_does 130 = .ok (.iaload, 1) := by decide +kernel
theorem dX7_does_131 : decode cX7_does 131 = .ok (.iload 4, 2) := by decide +kernel
theorem dX7_does_133 : decode cX7_does 133 = .ok (.ifCond .ne 7, 3) := by decide +kernel
theorem dX7_does_136 : decode cX7_does 136 = .ok (.iload_n 2, 1) := by decide +kernel
theorem dX7_does_137 : decode cX7_does 137 = .ok (.goto 4, 3) := by decide +kernel
theorem dX7_does_140 : decode cX7_does 140 = .ok (.iconst 0, 1) := by decide +kernel
theorem dX7_does_141 : decode cX7_does 141 = .ok (.iadd, 1) := by decide +kernel
theorem dX7_does_142 : decode cX7_does 142 = .ok (.iastore, 1) := by decide +kernel
theorem dX7_does_143 : decode cX7_does 143 = .ok (.iload 4, 2) := by decide +kernel
theorem dX7_does_145 : decode cX7_does 145 = .ok (.ireturn, 1) := by decide +kernel
set_option maxRecDepth 20000 in
theorem ggX7_perform_X7_reads : GoodIn wsX7_perform wsX7_reads := goodIn_r _ [13, 14, 4, 15, 16, 17, 18, 19, 12, 20, 21, 22, 23, 24, 25, 26, 27, 28, 29, 30, 31, 32, 33, 34, 35, 36, 37, 38, 39, 40, 41, 42, 43, 44, 45, 176, 177, 178, 179, 180, 181, 182, 183, 184, 185, 186, 187, 188, 189, 190, 191, 192, 193, 194, 195] (by decide +kernel) (by decide +kernel)
set_option maxRecDepth 20000 in
theorem gX7_perform_X7_reads : GoodIn wsX7_perform (wsV RX7 194 RX7 yX7_reads wsX7_reads) := goodIn_app (goodIn_of _ (by decide +kernel)) ggX7_perform_X7_reads
set_option maxRecDepth 20000 in
theorem ggX7_perform_X7_does : GoodIn wsX7_perform wsX7_does := goodIn_r _ [49, 21, 3, 50, 51, 52, 12, 53, 54, 55, 56, 57, 58, 59, 60, 43, 44, 45, 61, 62, 63, 64, 65, 66, 67, 68, 69, 70, 71, 72, 73, 74, 75, 76, 77, 78, 79, 80, 81, 82, 83, 84, 85, 86, 87, 88, 89, 90, 91, 92, 93, 94, 95, 96, 97, 98, 99, 100, 101, 102, 103, 104, 105, 106, 107, 108, 109, 110, 111, 112, 113, 114, 115, 116, 117, 118, 119, 120, 121, 122, 123, 124, 125, 126, 127, 128, 129, 130, 131, 132, 133, 134, 135, 136, 137, 138, 139, 140, 141, 142, 143, 144, 145, 146, 147, 148, 149, 150, 151, 152, 153, 154, 155, 156, 157, 158, 159, 160, 161, 162, 163, 164, 165, 166, 167, 168, 169, 170, 171, 176, 177, 178, 179, 180, 181, 182, 183, 184, 185, 186, 187, 188, 189, 190, 191, 192, 193, 194, 195] (by decide +kernel) (by decide +kernel)
set_option maxRecDepth 20000 in
theorem gX7_perform_X7_does : GoodIn wsX7_perform (wsV RX7 197 RX7 yX7_does wsX7_does) := goodIn_app (goodIn_of _ (by decide +kernel)) ggX7_perform_X7_does
set_option maxRecDepth 20000 in
theorem ggX7_perform_X7_records : GoodIn wsX7_perform wsX7_records := goodIn_r _ [175, 8, 7, 3, 176, 177, 178, 179, 180, 181, 182, 183, 184, 185, 186, 187, 188, 189, 190, 191, 192, 193, 194, 195] (by decide +kernel) (by decide +kernel)
set_option maxRecDepth 20000 in
theorem gX7_perform_X7_records : GoodIn wsX7_perform (wsV RX7 102 RX7 yX7_records wsX7_records) := goodIn_app (goodIn_of _ (by decide +kernel)) ggX7_perform_X7_records
theorem dX7_perform_0 : decode cX7_perform 0 = .ok (.aload_n 0, 1) := by decide +kernel
theorem dX7_perform_1 : decode cX7_perform 1 = .ok (.iconst 0, 1) := by decide +kernel
theorem dX7_perform_2 : decode cX7_perform 2 = .ok (.putfield 43, 3) := by decide +kernel
theorem dX7_perform_5 : decode cX7_perform 5 = .ok (.aload_n 0, 1) := by decide +kernel
theorem dX7_perform_6 : decode cX7_perform 6 = .ok (.invokevirtual 194, 3) := by decide +kernel
theorem dX7_perform_9 : decode cX7_perform 9 = .ok (.istore_n 1, 1) := by decide +kernel
theorem dX7_perform_10 : decode cX7_perform 10 = .ok (.iload_n 1, 1) := by decide +kernel
theorem dX7_perform_11 : decode cX7_perform 11 = .ok (.bipush (-5), 2) := by decide +kernel
theorem dX7_perform_13 : decode cX7_perform 13 = .ok (.if_icmp .eq 8, 3) := by decide +kernel
theorem dX7_perform_16 : decode cX7_perform 16 = .ok (.bipush (-100), 2) := by decide +kernel
theorem dX7_perform_18 : decode cX7_perform 18 = .ok (.iload_n 1, 1) := by decide +kernel
theorem dX7_perform_19 : decode cX7_perform 19 = .ok (.isub, 1) := by decide +kernel
theorem dX7_perform_20 : decode cX7_perform 20 = .ok (.ireturn, 1) := by decide +kernel
theorem dX7_perform_21 : decode cX7_perform 21 = .ok (.iconst 0, 1) := by decide +kernel
theorem dX7_perform_22 : decode cX7_perform 22 = .ok (.istore_n 2, 1) := by decide +kernel
theorem dX7_perform_23 : decode cX7_perform 23 = .ok (.iload_n 2, 1) := by decide +kernel
theorem dX7_perform_24 : decode cX7_perform 24 = .ok (.sipush 474, 3) := by decide +kernel
theorem dX7_perform_27 : decode cX7_perform 27 = .ok (.if_icmp .ge 21, 3) := by decide +kernel
theorem dX7_perform_30 : decode cX7_perform 30 = .ok (.aload_n 0, 1) := by decide +kernel
theorem dX7_perform_31 : decode cX7_perform 31 = .ok (.getfield 13, 3) := by decide +kernel
theorem dX7_perform_34 : decode cX7_perform 34 = .ok (.iload_n 2, 1) := by decide +kernel
theorem dX7_perform_35 : decode cX7_perform 35 = .ok (.aload_n 0, 1) := by decide +kernel
theorem dX7_perform_36 : decode cX7_perform 36 = .ok (.getfield 7, 3) := by decide +kernel
theorem dX7_perform_39 : decode cX7_perform 39 = .ok (.iload_n 2, 1) := by decide +kernel
theorem dX7_perform_40 : decode cX7_perform 40 = .ok (.iaload, 1) := by decide +kernel
theorem dX7_perform_41 : decode cX7_perform 41 = .ok (.iastore, 1) := by decide +kernel
theorem dX7_perform_42 : decode cX7_perform 42 = .ok (.iinc 2 1, 3) := by decide +kernel
theorem dX7_perform_45 : decode cX7_perform 45 = .ok (.goto (-22), 3) := by decide +kernel
theorem dX7_perform_48 : decode cX7_perform 48 = .ok (.iconst 0, 1) := by decide +kernel
theorem dX7_perform_49 : decode cX7_perform 49 = .ok (.istore_n 2, 1) := by decide +kernel
theorem dX7_perform_50 : decode cX7_perform 50 = .ok (.iconst 0, 1) := by decide +kernel
theorem dX7_perform_51 : decode cX7_perform 51 = .ok (.istore_n 3, 1) := by decide +kernel
theorem dX7_perform_52 : decode cX7_perform 52 = .ok (.iload_n 3, 1) := by decide +kernel
theorem dX7_perform_53 : decode cX7_perform 53 = .ok (.aload_n 0, 1) := by decide +kernel
theorem dX7_perform_54 : decode cX7_perform 54 = .ok (.getfield 173, 3) := by decide +kernel
theorem dX7_perform_57 : decode cX7_perform 57 = .ok (.if_icmp .ge 21, 3) := by decide +kernel
theorem dX7_perform_60 : decode cX7_perform 60 = .ok (.iload_n 2, 1) := by decide +kernel
theorem dX7_perform_61 : decode cX7_perform 61 = .ok (.ifCond .ne 17, 3) := by decide +kernel
theorem dX7_perform_64 : decode cX7_perform 64 = .ok (.aload_n 0, 1) := by decide +kernel
theorem dX7_perform_65 : decode cX7_perform 65 = .ok (.iconst 4, 1) := by decide +kernel
theorem dX7_perform_66 : decode cX7_perform 66 = .ok (.iload_n 3, 1) := by decide +kernel
theorem dX7_perform_67 : decode cX7_perform 67 = .ok (.imul, 1) := by decide +kernel
theorem dX7_perform_68 : decode cX7_perform 68 = .ok (.invokevirtual 197, 3) := by decide +kernel
theorem dX7_perform_71 : decode cX7_perform 71 = .ok (.istore_n 2, 1) := by decide +kernel
theorem dX7_perform_72 : decode cX7_perform 72 = .ok (.iinc 3 1, 3) := by decide +kernel
theorem dX7_perform_75 : decode cX7_perform 75 = .ok (.goto (-23), 3) := by decide +kernel
theorem dX7_perform_78 : decode cX7_perform 78 = .ok (.iload_n 2, 1) := by decide +kernel
theorem dX7_perform_79 : decode cX7_perform 79 = .ok (.ifCond .eq 49, 3) := by decide +kernel
theorem dX7_perform_82 : decode cX7_perform 82 = .ok (.iconst 0, 1) := by decide +kernel
theorem dX7_perform_83 : decode cX7_perform 83 = .ok (.istore 4, 2) := by decide +kernel
theorem dX7_perform_85 : decode cX7_perform 85 = .ok (.iload 4, 2) := by decide +kernel
theorem dX7_perform_87 : decode cX7_perform 87 = .ok (.sipush 474, 3) := by decide +kernel
theorem dX7_perform_90 : decode cX7_perform 90 = .ok (.if_icmp .ge 23, 3) := by decide +kernel
theorem dX7_perform_93 : decode cX7_perform 93 = .ok (.aload_n 0, 1) := by decide +kernel
theorem dX7_perform_94 : decode cX7_perform 94 = .ok (.getfield 7, 3) := by decide +kernel
theorem dX7_perform_97 : decode cX7_perform 97 = .ok (.iload 4, 2) := by decide +kernel
theorem dX7_perform_99 : decode cX7_perform 99 = .ok (.aload_n 0, 1) := by decide +kernel
theorem dX7_perform_100 : decode cX7_perform 100 = .ok (.getfield 13, 3) := by decide +kernel
theorem dX7_perform_103 : decode cX7_perform 103 = .ok (.iload 4, 2) := by decide +kernel
theorem dX7_perform_105 : decode cX7_perform 105 = .ok (.iaload, 1) := by decide +kernel
theorem dX7_perform_106 : decode cX7_perform 106 = .ok (.iastore, 1) := by decide +kernel
theorem dX7_perform_107 : decode cX7_perform 107 = .ok (.iinc 4 1, 3) := by decide +kernel
theorem dX7_perform_110 : decode cX7_perform 110 = .ok (.goto (-25), 3) := by decide +kernel
theorem dX7_perform_113 : decode cX7_perform 113 = .ok (.aload_n 0, 1) := by decide +kernel
theorem dX7_perform_114 : decode cX7_perform 114 = .ok (.iload_n 3, 1) := by decide +kernel
theorem dX7_perform_115 : decode cX7_perform 115 = .ok (.iconst 1, 1) := by decide +kernel
theorem dX7_perform_116 : decode cX7_perform 116 = .ok (.isub, 1) := by decide +kernel
theorem dX7_perform_117 : decode cX7_perform 117 = .ok (.putfield 47, 3) := by decide +kernel
theorem dX7_perform_120 : decode cX7_perform 120 = .ok (.aload_n 0, 1) := by decide +kernel
theorem dX7_perform_121 : decode cX7_perform 121 = .ok (.iload_n 2, 1) := by decide +kernel
theorem dX7_perform_122 : decode cX7_perform 122 = .ok (.putfield 200, 3) := by decide +kernel
theorem dX7_perform_125 : decode cX7_perform 125 = .ok (.bipush (-4), 2) := by decide +kernel
theorem dX7_perform_127 : decode cX7_perform 127 = .ok (.ireturn, 1) := by decide +kernel
theorem dX7_perform_128 : decode cX7_perform 128 = .ok (.aload_n 0, 1) := by decide +kernel
theorem dX7_perform_129 : decode cX7_perform 129 = .ok (.invokevirtual 102, 3) := by decide +kernel
theorem dX7_perform_132 : decode cX7_perform 132 = .ok (.iconst 0, 1) := by decide +kernel
theorem dX7_perform_133 : decode cX7_perform 133 = .ok (.istore 4, 2) := by decide +kernel
theorem dX7_perform_135 : decode cX7_perform 135 = .ok (.iload 4, 2) := by decide +kernel
theorem dX7_perform_137 : decode cX7_perform 137 = .ok (.sipush 474, 3) := by decide +kernel
theorem dX7_perform_140 : decode cX7_perform 140 = .ok (.if_icmp .ge 34, 3) := by decide +kernel
theorem dX7_perform_143 : decode cX7_perform 143 = .ok (.aload_n 0, 1) := by decide +kernel
theorem dX7_perform_144 : decode cX7_perform 144 = .ok (.getfield 16, 3) := by decide +kernel
theorem dX7_perform_147 : decode cX7_perform 147 = .ok (.sipush 474, 3) := by decide +kernel
theorem dX7_perform_150 : decode cX7_perform 150 = .ok (.aload_n 0, 1) := by decide +kernel
theorem dX7_perform_151 : decode cX7_perform 151 = .ok (.getfield 58, 3) := by decide +kernel
theorem dX7_perform_154 : decode cX7_perform 154 = .ok (.iconst 1, 1) := by decide +kernel
theorem dX7_perform_155 : decode cX7_perform 155 = .ok (.isub, 1) := by decide +kernel
theorem dX7_perform_156 : decode cX7_perform 156 = .ok (.imul, 1) := by decide +kernel
theorem dX7_perform_157 : decode cX7_perform 157 = .ok (.iload 4, 2) := by decide +kernel
theorem dX7_perform_159 : decode cX7_perform 159 = .ok (.iadd, 1) := by decide +kernel
theorem dX7_perform_160 : decode cX7_perform 160 = .ok (.aload_n 0, 1) := by decide +kernel
theorem dX7_perform_161 : decode cX7_perform 161 = .ok (.getfield 13, 3) := by decide +kernel
theorem dX7_perform_164 : decode cX7_perform 164 = .ok (.iload 4, 2) := by decide +kernel
theorem dX7_perform_166 : decode cX7_perform 166 = .ok (.iaload, 1) := by decide +kernel
theorem dX7_perform_167 : decode cX7_perform 167 = .ok (.iastore, 1) := by decide +kernel
theorem dX7_perform_168 : decode cX7_perform 168 = .ok (.iinc 4 1, 3) := by decide +kernel
theorem dX7_perform_171 : decode cX7_perform 171 = .ok (.goto (-36), 3) := by decide +kernel
theorem dX7_perform_174 : decode cX7_perform 174 = .ok (.aload_n 0, 1) := by decide +kernel
theorem dX7_perform_175 : decode cX7_perform 175 = .ok (.getfield 173, 3) := by decide +kernel
theorem dX7_perform_178 : decode cX7_perform 178 = .ok (.ireturn, 1) := by decide +kernel
set_option maxRecDepth 20000 in
theorem ggX7_stopped_X7_in : GoodIn wsX7_stopped wsX7_in := goodIn_r _ [7] (by decide +kernel) (by decide +kernel)
set_option maxRecDepth 20000 in
theorem gX7_stopped_X7_in : GoodIn wsX7_stopped (va_wsS RX7 54 yX7_in wsX7_in) := goodIn_app (goodIn_of _ (by decide +kernel)) ggX7_stopped_X7_in
theorem dX7_stopped_0 : decode cX7_stopped 0 = .ok (.aload_n 0, 1) := by decide +kernel
theorem dX7_stopped_1 : decode cX7_stopped 1 = .ok (.iconst 0, 1) := by decide +kernel
theorem dX7_stopped_2 : decode cX7_stopped 2 = .ok (.putfield 43, 3) := by decide +kernel
theorem dX7_stopped_5 : decode cX7_stopped 5 = .ok (.iload_n 1, 1) := by decide +kernel
theorem dX7_stopped_6 : decode cX7_stopped 6 = .ok (.iconst 0, 1) := by decide +kernel
theorem dX7_stopped_7 : decode cX7_stopped 7 = .ok (.iconst 1, 1) := by decide +kernel
theorem dX7_stopped_8 : decode cX7_stopped 8 = .ok (.invokestatic 54, 3) := by decide +kernel
theorem dX7_stopped_11 : decode cX7_stopped 11 = .ok (.ifCond .ne 6, 3) := by decide +kernel
theorem dX7_stopped_14 : decode cX7_stopped 14 = .ok (.bipush (-2), 2) := by decide +kernel
theorem dX7_stopped_16 : decode cX7_stopped 16 = .ok (.ireturn, 1) := by decide +kernel
theorem dX7_stopped_17 : decode cX7_stopped 17 = .ok (.aload_n 0, 1) := by decide +kernel
theorem dX7_stopped_18 : decode cX7_stopped 18 = .ok (.getfield 47, 3) := by decide +kernel
theorem dX7_stopped_21 : decode cX7_stopped 21 = .ok (.bipush (-5), 2) := by decide +kernel
theorem dX7_stopped_23 : decode cX7_stopped 23 = .ok (.if_icmp .eq 7, 3) := by decide +kernel
theorem dX7_stopped_26 : decode cX7_stopped 26 = .ok (.iload_n 1, 1) := by decide +kernel
theorem dX7_stopped_27 : decode cX7_stopped 27 = .ok (.ifCond .ne 10, 3) := by decide +kernel
theorem dX7_stopped_30 : decode cX7_stopped 30 = .ok (.aload_n 0, 1) := by decide +kernel
theorem dX7_stopped_31 : decode cX7_stopped 31 = .ok (.getfield 47, 3) := by decide +kernel
theorem dX7_stopped_34 : decode cX7_stopped 34 = .ok (.goto 7, 3) := by decide +kernel
theorem dX7_stopped_37 : decode cX7_stopped 37 = .ok (.aload_n 0, 1) := by decide +kernel
theorem dX7_stopped_38 : decode cX7_stopped 38 = .ok (.getfield 200, 3) := by decide +kernel
theorem dX7_stopped_41 : decode cX7_stopped 41 = .ok (.ireturn, 1) := by decide +kernel
theorem dX7_undo_0 : decode cX7_undo 0 = .ok (.aload_n 0, 1) := by decide +kernel
theorem dX7_undo_1 : decode cX7_undo 1 = .ok (.iconst 0, 1) := by decide +kernel
theorem dX7_undo_2 : decode cX7_undo 2 = .ok (.putfield 43, 3) := by decide +kernel
theorem dX7_undo_5 : decode cX7_undo 5 = .ok (.aload_n 0, 1) := by decide +kernel
theorem dX7_undo_6 : decode cX7_undo 6 = .ok (.getfield 58, 3) := by decide +kernel
theorem dX7_undo_9 : decode cX7_undo 9 = .ok (.ifCond .ne 6, 3) := by decide +kernel
theorem dX7_undo_12 : decode cX7_undo 12 = .ok (.bipush (-5), 2) := by decide +kernel
theorem dX7_undo_14 : decode cX7_undo 14 = .ok (.ireturn, 1) := by decide +kernel
theorem dX7_undo_15 : decode cX7_undo 15 = .ok (.aload_n 0, 1) := by decide +kernel
theorem dX7_undo_16 : decode cX7_undo 16 = .ok (.dup, 1) := by decide +kernel
theorem dX7_undo_17 : decode cX7_undo 17 = .ok (.getfield 58, 3) := by decide +kernel
theorem dX7_undo_20 : decode cX7_undo 20 = .ok (.iconst 1, 1) := by decide +kernel
theorem dX7_undo_21 : decode cX7_undo 21 = .ok (.isub, 1) := by decide +kernel
theorem dX7_undo_22 : decode cX7_undo 22 = .ok (.putfield 58, 3) := by decide +kernel
theorem dX7_undo_25 : decode cX7_undo 25 = .ok (.iconst 0, 1) := by decide +kernel
theorem dX7_undo_26 : decode cX7_undo 26 = .ok (.istore_n 1, 1) := by decide +kernel
theorem dX7_undo_27 : decode cX7_undo 27 = .ok (.iload_n 1, 1) := by decide +kernel
theorem dX7_undo_28 : decode cX7_undo 28 = .ok (.sipush 474, 3) := by decide +kernel
theorem dX7_undo_31 : decode cX7_undo 31 = .ok (.if_icmp .ge 30, 3) := by decide +kernel
theorem dX7_undo_34 : decode cX7_undo 34 = .ok (.aload_n 0, 1) := by decide +kernel
theorem dX7_undo_35 : decode cX7_undo 35 = .ok (.getfield 7, 3) := by decide +kernel
theorem dX7_undo_38 : decode cX7_undo 38 = .ok (.iload_n 1, 1) := by decide +kernel
theorem dX7_undo_39 : decode cX7_undo 39 = .ok (.aload_n 0, 1) := by decide +kernel
theorem dX7_undo_40 : decode cX7_undo 40 = .ok (.getfield 16, 3) := by decide +kernel
theorem dX7_undo_43 : decode cX7_undo 43 = .ok (.sipush 474, 3) := by decide +kernel
theorem dX7_undo_46 : decode cX7_undo 46 = .ok (.aload_n 0, 1) := by decide +kernel
theorem dX7_undo_47 : decode cX7_undo 47 = .ok (.getfield 58, 3) := by decide +kernel
theorem dX7_undo_50 : decode cX7_undo 50 = .ok (.imul, 1) := by decide +kernel
theorem dX7_undo_51 : decode cX7_undo 51 = .ok (.iload_n 1, 1) := by decide +kernel
theorem dX7_undo_52 : decode cX7_undo 52 = .ok (.iadd, 1) := by decide +kernel
theorem dX7_undo_53 : decode cX7_undo 53 = .ok (.iaload, 1) := by decide +kernel
theorem dX7_undo_54 : decode cX7_undo 54 = .ok (.iastore, 1) := by decide +kernel
theorem dX7_undo_55 : decode cX7_undo 55 = .ok (.iinc 1 1, 3) := by decide +kernel
theorem dX7_undo_58 : decode cX7_undo 58 = .ok (.goto (-31), 3) := by decide +kernel
theorem dX7_undo_61 : decode cX7_undo 61 = .ok (.aload_n 0, 1) := by decide +kernel
theorem dX7_undo_62 : decode cX7_undo 62 = .ok (.getfield 58, 3) := by decide +kernel
theorem dX7_undo_65 : decode cX7_undo 65 = .ok (.ireturn, 1) := by decide +kernel
theorem dX7_keep_0 : decode cX7_keep 0 = .ok (.aload_n 0, 1) := by decide +kernel
theorem dX7_keep_1 : decode cX7_keep 1 = .ok (.iconst 0, 1) := by decide +kernel
theorem dX7_keep_2 : decode cX7_keep 2 = .ok (.putfield 43, 3) := by decide +kernel
theorem dX7_keep_5 : decode cX7_keep 5 = .ok (.iconst 0, 1) := by decide +kernel
theorem dX7_keep_6 : decode cX7_keep 6 = .ok (.istore_n 1, 1) := by decide +kernel
theorem dX7_keep_7 : decode cX7_keep 7 = .ok (.iload_n 1, 1) := by decide +kernel
theorem dX7_keep_8 : decode cX7_keep 8 = .ok (.sipush 474, 3) := by decide +kernel
theorem dX7_keep_11 : decode cX7_keep 11 = .ok (.if_icmp .ge 21, 3) := by decide +kernel
theorem dX7_keep_14 : decode cX7_keep 14 = .ok (.aload_n 0, 1) := by decide +kernel
theorem dX7_keep_15 : decode cX7_keep 15 = .ok (.getfield 19, 3) := by decide +kernel
theorem dX7_keep_18 : decode cX7_keep 18 = .ok (.iload_n 1, 1) := by decide +kernel
theorem dX7_keep_19 : decode cX7_keep 19 = .ok (.aload_n 0, 1) := by decide +kernel
theorem dX7_keep_20 : decode cX7_keep 20 = .ok (.getfield 7, 3) := by decide +kernel
theorem dX7_keep_23 : decode cX7_keep 23 = .ok (.iload_n 1, 1) := by decide +kernel
theorem dX7_keep_24 : decode cX7_keep 24 = .ok (.iaload, 1) := by decide +kernel
theorem dX7_keep_25 : decode cX7_keep 25 = .ok (.iastore, 1) := by decide +kernel
theorem dX7_keep_26 : decode cX7_keep 26 = .ok (.iinc 1 1, 3) := by decide +kernel
theorem dX7_keep_29 : decode cX7_keep 29 = .ok (.goto (-22), 3) := by decide +kernel
theorem dX7_keep_32 : decode cX7_keep 32 = .ok (.aload_n 0, 1) := by decide +kernel
theorem dX7_keep_33 : decode cX7_keep 33 = .ok (.iconst 1, 1) := by decide +kernel
theorem dX7_keep_34 : decode cX7_keep 34 = .ok (.putfield 203, 3) := by decide +kernel
theorem dX7_keep_37 : decode cX7_keep 37 = .ok (.aload_n 0, 1) := by decide +kernel
theorem dX7_keep_38 : decode cX7_keep 38 = .ok (.getfield 7, 3) := by decide +kernel
theorem dX7_keep_41 : decode cX7_keep 41 = .ok (.iconst 3, 1) := by decide +kernel
theorem dX7_keep_42 : decode cX7_keep 42 = .ok (.iaload, 1) := by decide +kernel
theorem dX7_keep_43 : decode cX7_keep 43 = .ok (.ireturn, 1) := by decide +kernel
set_option maxRecDepth 20000 in
theorem ggX7_restore_X7_records : GoodIn wsX7_restore wsX7_records := goodIn_r _ [9, 10, 11, 3, 12, 13, 14, 15, 16, 17, 18, 19, 20, 21, 22, 23, 24, 25, 26, 27, 28, 29, 30, 31] (by decide +kernel) (by decide +kernel)
set_option maxRecDepth 20000 in
theorem gX7_restore_X7_records : GoodIn wsX7_restore (wsV RX7 102 RX7 yX7_records wsX7_records) := goodIn_app (goodIn_of _ (by decide +kernel)) ggX7_restore_X7_records
theorem dX7_restore_0 : decode cX7_restore 0 = .ok (.aload_n 0, 1) := by decide +kernel
theorem dX7_restore_1 : decode cX7_restore 1 = .ok (.iconst 0, 1) := by decide +kernel
theorem dX7_restore_2 : decode cX7_restore 2 = .ok (.putfield 43, 3) := by decide +kernel
theorem dX7_restore_5 : decode cX7_restore 5 = .ok (.aload_n 0, 1) := by decide +kernel
theorem dX7_restore_6 : decode cX7_restore 6 = .ok (.getfield 203, 3) := by decide +kernel
theorem dX7_restore_9 : decode cX7_restore 9 = .ok (.ifCond .ne 6, 3) := by decide +kernel
theorem dX7_restore_12 : decode cX7_restore 12 = .ok (.bipush (-5), 2) := by decide +kernel
theorem dX7_restore_14 : decode cX7_restore 14 = .ok (.ireturn, 1) := by decide +kernel
theorem dX7_restore_15 : decode cX7_restore 15 = .ok (.aload_n 0, 1) := by decide +kernel
theorem dX7_restore_16 : decode cX7_restore 16 = .ok (.invokevirtual 102, 3) := by decide +kernel
theorem dX7_restore_19 : decode cX7_restore 19 = .ok (.iconst 0, 1) := by decide +kernel
theorem dX7_restore_20 : decode cX7_restore 20 = .ok (.istore_n 1, 1) := by decide +kernel
theorem dX7_restore_21 : decode cX7_restore 21 = .ok (.iload_n 1, 1) := by decide +kernel
theorem dX7_restore_22 : decode cX7_restore 22 = .ok (.sipush 474, 3) := by decide +kernel
theorem dX7_restore_25 : decode cX7_restore 25 = .ok (.if_icmp .ge 21, 3) := by decide +kernel
theorem dX7_restore_28 : decode cX7_restore 28 = .ok (.aload_n 0, 1) := by decide +kernel
theorem dX7_restore_29 : decode cX7_restore 29 = .ok (.getfield 7, 3) := by decide +kernel
theorem dX7_restore_32 : decode cX7_restore 32 = .ok (.iload_n 1, 1) := by decide +kernel
theorem dX7_restore_33 : decode cX7_restore 33 = .ok (.aload_n 0, 1) := by decide +kernel
theorem dX7_restore_34 : decode cX7_restore 34 = .ok (.getfield 19, 3) := by decide +kernel
theorem dX7_restore_37 : decode cX7_restore 37 = .ok (.iload_n 1, 1) := by decide +kernel
theorem dX7_restore_38 : decode cX7_restore 38 = .ok (.iaload, 1) := by decide +kernel
theorem dX7_restore_39 : decode cX7_restore 39 = .ok (.iastore, 1) := by decide +kernel
theorem dX7_restore_40 : decode cX7_restore 40 = .ok (.iinc 1 1, 3) := by decide +kernel
theorem dX7_restore_43 : decode cX7_restore 43 = .ok (.goto (-22), 3) := by decide +kernel
theorem dX7_restore_46 : decode cX7_restore 46 = .ok (.aload_n 0, 1) := by decide +kernel
theorem dX7_restore_47 : decode cX7_restore 47 = .ok (.getfield 7, 3) := by decide +kernel
theorem dX7_restore_50 : decode cX7_restore 50 = .ok (.iconst 3, 1) := by decide +kernel
theorem dX7_restore_51 : decode cX7_restore 51 = .ok (.iaload, 1) := by decide +kernel
theorem dX7_restore_52 : decode cX7_restore 52 = .ok (.ireturn, 1) := by decide +kernel
set_option maxRecDepth 20000 in
theorem ggX7_warden_X7_isFloor : GoodIn wsX7_warden wsX7_isFloor := goodIn_r _ [7, 8, 9, 6, 10] (by decide +kernel) (by decide +kernel)
set_option maxRecDepth 20000 in
theorem gX7_warden_X7_isFloor : GoodIn wsX7_warden (va_wsS RX7 89 yX7_isFloor wsX7_isFloor) := goodIn_app (goodIn_of _ (by decide +kernel)) ggX7_warden_X7_isFloor
set_option maxRecDepth 20000 in
theorem ggX7_warden_X7_isDay : GoodIn wsX7_warden wsX7_isDay := goodIn_r _ [13, 8, 9, 6, 10] (by decide +kernel) (by decide +kernel)
set_option maxRecDepth 20000 in
theorem gX7_warden_X7_isDay : GoodIn wsX7_warden (va_wsS RX7 111 yX7_isDay wsX7_isDay) := goodIn_app (goodIn_of _ (by decide +kernel)) ggX7_warden_X7_isDay
set_option maxRecDepth 20000 in
theorem ggX7_warden_X7_plans : GoodIn wsX7_warden wsX7_plans := goodIn_r _ [17, 18, 2, 19, 20, 21, 22, 23, 6, 24, 25, 26, 27, 28, 29, 30, 31, 32, 33, 34, 35, 36, 37, 38, 39, 40, 41, 42, 43, 44, 45, 46, 47, 48, 3, 49, 50, 51, 52, 53, 54, 55, 56, 57, 58, 59, 60, 61, 62, 63, 64, 65, 66, 67, 68, 69, 70, 71, 72] (by decide +kernel) (by decide +kernel)
set_option maxRecDepth 20000 in
theorem gX7_warden_X7_plans : GoodIn wsX7_warden (wsV RX7 114 RX7 yX7_plans wsX7_plans) := goodIn_app (goodIn_of _ (by decide +kernel)) ggX7_warden_X7_plans
theorem dX7_warden_0 : decode cX7_warden 0 = .ok (.aload_n 0, 1) := by decide +kernel
theorem dX7_warden_1 : decode cX7_warden 1 = .ok (.iconst 0, 1) := by decide +kernel
theorem dX7_warden_2 : decode cX7_warden 2 = .ok (.putfield 43, 3) := by decide +kernel
theorem dX7_warden_5 : decode cX7_warden 5 = .ok (.iload_n 2, 1) := by decide +kernel
theorem dX7_warden_6 : decode cX7_warden 6 = .ok (.invokestatic 89, 3) := by decide +kernel
theorem dX7_warden_9 : decode cX7_warden 9 = .ok (.ifCond .ne 5, 3) := by decide +kernel
theorem dX7_warden_12 : decode cX7_warden 12 = .ok (.iconst (-1), 1) := by decide +kernel
theorem dX7_warden_13 : decode cX7_warden 13 = .ok (.ireturn, 1) := by decide +kernel
theorem dX7_warden_14 : decode cX7_warden 14 = .ok (.iload_n 1, 1) := by decide +kernel
theorem dX7_warden_15 : decode cX7_warden 15 = .ok (.invokestatic 111, 3) := by decide +kernel
theorem dX7_warden_18 : decode cX7_warden 18 = .ok (.ifCond .eq 7, 3) := by decide +kernel
theorem dX7_warden_21 : decode cX7_warden 21 = .ok (.iload_n 3, 1) := by decide +kernel
theorem dX7_warden_22 : decode cX7_warden 22 = .ok (.ifCond .ge 6, 3) := by decide +kernel
theorem dX7_warden_25 : decode cX7_warden 25 = .ok (.bipush (-2), 2) := by decide +kernel
theorem dX7_warden_27 : decode cX7_warden 27 = .ok (.ireturn, 1) := by decide +kernel
theorem dX7_warden_28 : decode cX7_warden 28 = .ok (.aload_n 0, 1) := by decide +kernel
theorem dX7_warden_29 : decode cX7_warden 29 = .ok (.iload_n 1, 1) := by decide +kernel
theorem dX7_warden_30 : decode cX7_warden 30 = .ok (.invokevirtual 114, 3) := by decide +kernel
theorem dX7_warden_33 : decode cX7_warden 33 = .ok (.iload_n 3, 1) := by decide +kernel
theorem dX7_warden_34 : decode cX7_warden 34 = .ok (.aload_n 0, 1) := by decide +kernel
theorem dX7_warden_35 : decode cX7_warden 35 = .ok (.getfield 31, 3) := by decide +kernel
theorem dX7_warden_38 : decode cX7_warden 38 = .ok (.iload_n 2, 1) := by decide +kernel
theorem dX7_warden_39 : decode cX7_warden 39 = .ok (.iaload, 1) := by decide +kernel
theorem dX7_warden_40 : decode cX7_warden 40 = .ok (.if_icmp .ge 16, 3) := by decide +kernel
theorem dX7_warden_43 : decode cX7_warden 43 = .ok (.aload_n 0, 1) := by decide +kernel
theorem dX7_warden_44 : decode cX7_warden 44 = .ok (.getfield 28, 3) := by decide +kernel
theorem dX7_warden_47 : decode cX7_warden 47 = .ok (.iconst 3, 1) := by decide +kernel
theorem dX7_warden_48 : decode cX7_warden 48 = .ok (.iload_n 2, 1) := by decide +kernel
theorem dX7_warden_49 : decode cX7_warden 49 = .ok (.imul, 1) := by decide +kernel
theorem dX7_warden_50 : decode cX7_warden 50 = .ok (.iload_n 3, 1) := by decide +kernel
theorem dX7_warden_51 : decode cX7_warden 51 = .ok (.iadd, 1) := by decide +kernel
theorem dX7_warden_52 : decode cX7_warden 52 = .ok (.iaload, 1) := by decide +kernel
theorem dX7_warden_53 : decode cX7_warden 53 = .ok (.goto 5, 3) := by decide +kernel
theorem dX7_warden_56 : decode cX7_warden 56 = .ok (.bipush (-5), 2) := by decide +kernel
theorem dX7_warden_58 : decode cX7_warden 58 = .ok (.ireturn, 1) := by decide +kernel
set_option maxRecDepth 20000 in
theorem ggX7_staff_X7_isFloor : GoodIn wsX7_staff wsX7_isFloor := goodIn_r _ [7, 8, 9, 6, 10] (by decide +kernel) (by decide +kernel)
set_option maxRecDepth 20000 in
theorem gX7_staff_X7_isFloor : GoodIn wsX7_staff (va_wsS RX7 89 yX7_isFloor wsX7_isFloor) := goodIn_app (goodIn_of _ (by decide +kernel)) ggX7_staff_X7_isFloor
set_option maxRecDepth 20000 in
theorem ggX7_staff_X7_isDay : GoodIn wsX7_staff wsX7_isDay := goodIn_r _ [13, 8, 9, 6, 10] (by decide +kernel) (by decide +kernel)
set_option maxRecDepth 20000 in
theorem gX7_staff_X7_isDay : GoodIn wsX7_staff (va_wsS RX7 111 yX7_isDay wsX7_isDay) := goodIn_app (goodIn_of _ (by decide +kernel)) ggX7_staff_X7_isDay
set_option maxRecDepth 20000 in
theorem ggX7_staff_X7_in : GoodIn wsX7_staff wsX7_in := goodIn_r _ [10] (by decide +kernel) (by decide +kernel)
set_option maxRecDepth 20000 in
theorem gX7_staff_X7_in : GoodIn wsX7_staff (va_wsS RX7 54 yX7_in wsX7_in) := goodIn_app (goodIn_of _ (by decide +kernel)) ggX7_staff_X7_in
set_option maxRecDepth 20000 in
theorem ggX7_staff_X7_plans : GoodIn wsX7_staff wsX7_plans := goodIn_r _ [17, 18, 2, 3, 19, 20, 21, 22, 6, 23, 24, 25, 26, 27, 28, 29, 30, 31, 32, 33, 34, 35, 36, 37, 38, 39, 40, 41, 42, 43, 44, 45, 46, 47, 48, 49, 50, 51, 52, 57, 58, 59, 60, 61, 62, 63, 64, 65, 66, 67, 68, 69, 70, 71, 72, 73, 74, 75, 76] (by decide +kernel) (by decide +kernel)
set_option maxRecDepth 20000 in
theorem gX7_staff_X7_plans : GoodIn wsX7_staff (wsV RX7 114 RX7 yX7_plans wsX7_plans) := goodIn_app (goodIn_of _ (by decide +kernel)) ggX7_staff_X7_plans
set_option maxRecDepth 20000 in
theorem ggX7_staff_X7_shortBy : GoodIn wsX7_staff wsX7_shortBy := goodIn_r _ [56, 2, 24, 25, 26, 6, 27, 19, 57, 58, 59, 60, 61, 62, 63, 64, 65, 66, 67, 68, 69, 70, 71, 72, 73, 74, 75, 76] (by decide +kernel) (by decide +kernel)
set_option maxRecDepth 20000 in
theorem gX7_staff_X7_shortBy : GoodIn wsX7_staff (wsV RX7 118 RX7 yX7_shortBy wsX7_shortBy) := goodIn_app (goodIn_of _ (by decide +kernel)) ggX7_staff_X7_shortBy
theorem dX7_staff_0 : decode cX7_staff 0 = .ok (.aload_n 0, 1) := by decide +kernel
theorem dX7_staff_1 : decode cX7_staff 1 = .ok (.iconst 0, 1) := by decide +kernel
theorem dX7_staff_2 : decode cX7_staff 2 = .ok (.putfield 43, 3) := by decide +kernel
theorem dX7_staff_5 : decode cX7_staff 5 = .ok (.iload_n 2, 1) := by decide +kernel
theorem dX7_staff_6 : decode cX7_staff 6 = .ok (.invokestatic 89, 3) := by decide +kernel
theorem dX7_staff_9 : decode cX7_staff 9 = .ok (.ifCond .ne 5, 3) := by decide +kernel
theorem dX7_staff_12 : decode cX7_staff 12 = .ok (.iconst (-1), 1) := by decide +kernel
theorem dX7_staff_13 : decode cX7_staff 13 = .ok (.ireturn, 1) := by decide +kernel
theorem dX7_staff_14 : decode cX7_staff 14 = .ok (.iload_n 1, 1) := by decide +kernel
theorem dX7_staff_15 : decode cX7_staff 15 = .ok (.invokestatic 111, 3) := by decide +kernel
theorem dX7_staff_18 : decode cX7_staff 18 = .ok (.ifCond .eq 12, 3) := by decide +kernel
theorem dX7_staff_21 : decode cX7_staff 21 = .ok (.iload_n 3, 1) := by decide +kernel
theorem dX7_staff_22 : decode cX7_staff 22 = .ok (.iconst 0, 1) := by decide +kernel
theorem dX7_staff_23 : decode cX7_staff 23 = .ok (.iconst 2, 1) := by decide +kernel
theorem dX7_staff_24 : decode cX7_staff 24 = .ok (.invokestatic 54, 3) := by decide +kernel
theorem dX7_staff_27 : decode cX7_staff 27 = .ok (.ifCond .ne 6, 3) := by decide +kernel
theorem dX7_staff_30 : decode cX7_staff 30 = .ok (.bipush (-2), 2) := by decide +kernel
theorem dX7_staff_32 : decode cX7_staff 32 = .ok (.ireturn, 1) := by decide +kernel
theorem dX7_staff_33 : decode cX7_staff 33 = .ok (.aload_n 0, 1) := by decide +kernel
theorem dX7_staff_34 : decode cX7_staff 34 = .ok (.iload_n 1, 1) := by decide +kernel
theorem dX7_staff_35 : decode cX7_staff 35 = .ok (.invokevirtual 114, 3) := by decide +kernel
theorem dX7_staff_38 : decode cX7_staff 38 = .ok (.iload_n 3, 1) := by decide +kernel
theorem dX7_staff_39 : decode cX7_staff 39 = .ok (.ifCond .ne 12, 3) := by decide +kernel
theorem dX7_staff_42 : decode cX7_staff 42 = .ok (.aload_n 0, 1) := by decide +kernel
theorem dX7_staff_43 : decode cX7_staff 43 = .ok (.getfield 31, 3) := by decide +kernel
theorem dX7_staff_46 : decode cX7_staff 46 = .ok (.iload_n 2, 1) := by decide +kernel
theorem dX7_staff_47 : decode cX7_staff 47 = .ok (.iaload, 1) := by decide +kernel
theorem dX7_staff_48 : decode cX7_staff 48 = .ok (.goto 22, 3) := by decide +kernel
theorem dX7_staff_51 : decode cX7_staff 51 = .ok (.iload_n 3, 1) := by decide +kernel
theorem dX7_staff_52 : decode cX7_staff 52 = .ok (.iconst 1, 1) := by decide +kernel
theorem dX7_staff_53 : decode cX7_staff 53 = .ok (.if_icmp .ne 11, 3) := by decide +kernel
theorem dX7_staff_56 : decode cX7_staff 56 = .ok (.aload_n 0, 1) := by decide +kernel
theorem dX7_staff_57 : decode cX7_staff 57 = .ok (.iload_n 2, 1) := by decide +kernel
theorem dX7_staff_58 : decode cX7_staff 58 = .ok (.invokevirtual 118, 3) := by decide +kernel
theorem dX7_staff_61 : decode cX7_staff 61 = .ok (.goto 9, 3) := by decide +kernel
theorem dX7_staff_64 : decode cX7_staff 64 = .ok (.aload_n 0, 1) := by decide +kernel
theorem dX7_staff_65 : decode cX7_staff 65 = .ok (.getfield 34, 3) := by decide +kernel
theorem dX7_staff_68 : decode cX7_staff 68 = .ok (.iload_n 2, 1) := by decide +kernel
theorem dX7_staff_69 : decode cX7_staff 69 = .ok (.iaload, 1) := by decide +kernel
theorem dX7_staff_70 : decode cX7_staff 70 = .ok (.ireturn, 1) := by decide +kernel
set_option maxRecDepth 20000 in
theorem ggX7_floor_X7_isFloor : GoodIn wsX7_floor wsX7_isFloor := goodIn_r _ [5, 6, 7, 4, 8] (by decide +kernel) (by decide +kernel)
set_option maxRecDepth 20000 in
theorem gX7_floor_X7_isFloor : GoodIn wsX7_floor (va_wsS RX7 89 yX7_isFloor wsX7_isFloor) := goodIn_app (goodIn_of _ (by decide +kernel)) ggX7_floor_X7_isFloor
set_option maxRecDepth 20000 in
theorem ggX7_floor_X7_of : GoodIn wsX7_floor wsX7_of := goodIn_r _ [12, 13, 14, 15, 16, 17, 18, 19, 20, 21, 22, 23, 24, 25, 26, 27, 28, 29, 30, 31, 32, 33] (by decide +kernel) (by decide +kernel)
set_option maxRecDepth 20000 in
theorem gX7_floor_X7_of : GoodIn wsX7_floor (wsV RX7 68 RX7 yX7_of wsX7_of) := goodIn_app (goodIn_of _ (by decide +kernel)) ggX7_floor_X7_of
theorem dX7_floor_0 : decode cX7_floor 0 = .ok (.aload_n 0, 1) := by decide +kernel
theorem dX7_floor_1 : decode cX7_floor 1 = .ok (.iconst 0, 1) := by decide +kernel
theorem dX7_floor_2 : decode cX7_floor 2 = .ok (.putfield 43, 3) := by decide +kernel
theorem dX7_floor_5 : decode cX7_floor 5 = .ok (.iload_n 1, 1) := by decide +kernel
theorem dX7_floor_6 : decode cX7_floor 6 = .ok (.invokestatic 89, 3) := by decide +kernel
theorem dX7_floor_9 : decode cX7_floor 9 = .ok (.ifCond .ne 5, 3) := by decide +kernel
theorem dX7_floor_12 : decode cX7_floor 12 = .ok (.iconst (-1), 1) := by decide +kernel
theorem dX7_floor_13 : decode cX7_floor 13 = .ok (.ireturn, 1) := by decide +kernel
theorem dX7_floor_14 : decode cX7_floor 14 = .ok (.iload_n 2, 1) := by decide +kernel
theorem dX7_floor_15 : decode cX7_floor 15 = .ok (.tableswitch 86 0 3 #[29, 36, 43, 51], 29) := by decide +kernel
theorem dX7_floor_44 : decode cX7_floor 44 = .ok (.aload_n 0, 1) := by decide +kernel
theorem dX7_floor_45 : decode cX7_floor 45 = .ok (.iload_n 1, 1) := by decide +kernel
theorem dX7_floor_46 : decode cX7_floor 46 = .ok (.iconst 0, 1) := by decide +kernel
theorem dX7_floor_47 : decode cX7_floor 47 = .ok (.invokevirtual 68, 3) := by decide +kernel
theorem dX7_floor_50 : decode cX7_floor 50 = .ok (.ireturn, 1) := by decide +kernel
theorem dX7_floor_51 : decode cX7_floor 51 = .ok (.aload_n 0, 1) := by decide +kernel
theorem dX7_floor_52 : decode cX7_floor 52 = .ok (.iload_n 1, 1) := by decide +kernel
theorem dX7_floor_53 : decode cX7_floor 53 = .ok (.iconst 1, 1) := by decide +kernel
theorem dX7_floor_54 : decode cX7_floor 54 = .ok (.invokevirtual 68, 3) := by decide +kernel
theorem dX7_floor_57 : decode cX7_floor 57 = .ok (.ireturn, 1) := by decide +kernel
theorem dX7_floor_58 : decode cX7_floor 58 = .ok (.aload_n 0, 1) := by decide +kernel
theorem dX7_floor_59 : decode cX7_floor 59 = .ok (.iload_n 1, 1) := by decide +kernel
theorem dX7_floor_60 : decode cX7_floor 60 = .ok (.bipush 7, 2) := by decide +kernel
theorem dX7_floor_62 : decode cX7_floor 62 = .ok (.invokevirtual 68, 3) := by decide +kernel
theorem dX7_floor_65 : decode cX7_floor 65 = .ok (.ireturn, 1) := by decide +kernel
theorem dX7_floor_66 : decode cX7_floor 66 = .ok (.aload_n 0, 1) := by decide +kernel
theorem dX7_floor_67 : decode cX7_floor 67 = .ok (.iload_n 1, 1) := by decide +kernel
theorem dX7_floor_68 : decode cX7_floor 68 = .ok (.bipush 8, 2) := by decide +kernel
theorem dX7_floor_70 : decode cX7_floor 70 = .ok (.invokevirtual 68, 3) := by decide +kernel
theorem dX7_floor_73 : decode cX7_floor 73 = .ok (.ifCond .ne 8, 3) := by decide +kernel
theorem dX7_floor_76 : decode cX7_floor 76 = .ok (.bipush (-5), 2) := by decide +kernel
theorem dX7_floor_78 : decode cX7_floor 78 = .ok (.goto 22, 3) := by decide +kernel
theorem dX7_floor_81 : decode cX7_floor 81 = .ok (.aload_n 0, 1) := by decide +kernel
theorem dX7_floor_82 : decode cX7_floor 82 = .ok (.iload_n 1, 1) := by decide +kernel
theorem dX7_floor_83 : decode cX7_floor 83 = .ok (.bipush 9, 2) := by decide +kernel
theorem dX7_floor_85 : decode cX7_floor 85 = .ok (.iconst 3, 1) := by decide +kernel
theorem dX7_floor_86 : decode cX7_floor 86 = .ok (.aload_n 0, 1) := by decide +kernel
theorem dX7_floor_87 : decode cX7_floor 87 = .ok (.iload_n 1, 1) := by decide +kernel
theorem dX7_floor_88 : decode cX7_floor 88 = .ok (.bipush 8, 2) := by decide +kernel
theorem dX7_floor_90 : decode cX7_floor 90 = .ok (.invokevirtual 68, 3) := by decide +kernel
theorem dX7_floor_93 : decode cX7_floor 93 = .ok (.imul, 1) := by decide +kernel
theorem dX7_floor_94 : decode cX7_floor 94 = .ok (.iadd, 1) := by decide +kernel
theorem dX7_floor_95 : decode cX7_floor 95 = .ok (.iconst 3, 1) := by decide +kernel
theorem dX7_floor_96 : decode cX7_floor 96 = .ok (.isub, 1) := by decide +kernel
theorem dX7_floor_97 : decode cX7_floor 97 = .ok (.invokevirtual 68, 3) := by decide +kernel
theorem dX7_floor_100 : decode cX7_floor 100 = .ok (.ireturn, 1) := by decide +kernel
theorem dX7_floor_101 : decode cX7_floor 101 = .ok (.bipush (-2), 2) := by decide +kernel
theorem dX7_floor_103 : decode cX7_floor 103 = .ok (.ireturn, 1) := by decide +kernel
set_option maxRecDepth 20000 in
theorem ggX7_row_X7_isFloor : GoodIn wsX7_row wsX7_isFloor := goodIn_r _ [5, 6, 7, 4, 8] (by decide +kernel) (by decide +kernel)
set_option maxRecDepth 20000 in
theorem gX7_row_X7_isFloor : GoodIn wsX7_row (va_wsS RX7 89 yX7_isFloor wsX7_isFloor) := goodIn_app (goodIn_of _ (by decide +kernel)) ggX7_row_X7_isFloor
set_option maxRecDepth 20000 in
theorem ggX7_row_X7_of : GoodIn wsX7_row wsX7_of := goodIn_r _ [12, 13, 14, 15, 16, 17, 18, 19, 20, 21, 22, 23, 24, 25, 26, 27, 28, 29, 30, 31, 32, 33] (by decide +kernel) (by decide +kernel)
set_option maxRecDepth 20000 in
theorem gX7_row_X7_of : GoodIn wsX7_row (wsV RX7 68 RX7 yX7_of wsX7_of) := goodIn_app (goodIn_of _ (by decide +kernel)) ggX7_row_X7_of
theorem dX7_row_0 : decode cX7_row 0 = .ok (.aload_n 0, 1) := by decide +kernel
theorem dX7_row_1 : decode cX7_row 1 = .ok (.iconst 0, 1) := by decide +kernel
theorem dX7_row_2 : decode cX7_row 2 = .ok (.putfield 43, 3) := by decide +kernel
theorem dX7_row_5 : decode cX7_row 5 = .ok (.iload_n 1, 1) := by decide +kernel
theorem dX7_row_6 : decode cX7_row 6 = .ok (.invokestatic 89, 3) := by decide +kernel
theorem dX7_row_9 : decode cX7_row 9 = .ok (.ifCond .ne 5, 3) := by decide +kernel
theorem dX7_row_12 : decode cX7_row 12 = .ok (.iconst (-1), 1) := by decide +kernel
theorem dX7_row_13 : decode cX7_row 13 = .ok (.ireturn, 1) := by decide +kernel
theorem dX7_row_14 : decode cX7_row 14 = .ok (.iload_n 2, 1) := by decide +kernel
theorem dX7_row_15 : decode cX7_row 15 = .ok (.ifCond .ge 8, 3) := by decide +kernel
theorem dX7_row_18 : decode cX7_row 18 = .ok (.bipush (-2), 2) := by decide +kernel
theorem dX7_row_20 : decode cX7_row 20 = .ok (.goto 26, 3) := by decide +kernel
theorem dX7_row_23 : decode cX7_row 23 = .ok (.iload_n 2, 1) := by decide +kernel
theorem dX7_row_24 : decode cX7_row 24 = .ok (.aload_n 0, 1) := by decide +kernel
theorem dX7_row_25 : decode cX7_row 25 = .ok (.iload_n 1, 1) := by decide +kernel
theorem dX7_row_26 : decode cX7_row 26 = .ok (.iconst 1, 1) := by decide +kernel
theorem dX7_row_27 : decode cX7_row 27 = .ok (.invokevirtual 68, 3) := by decide +kernel
theorem dX7_row_30 : decode cX7_row 30 = .ok (.if_icmp .ge 14, 3) := by decide +kernel
theorem dX7_row_33 : decode cX7_row 33 = .ok (.aload_n 0, 1) := by decide +kernel
theorem dX7_row_34 : decode cX7_row 34 = .ok (.iload_n 1, 1) := by decide +kernel
theorem dX7_row_35 : decode cX7_row 35 = .ok (.iconst 2, 1) := by decide +kernel
theorem dX7_row_36 : decode cX7_row 36 = .ok (.iload_n 2, 1) := by decide +kernel
theorem dX7_row_37 : decode cX7_row 37 = .ok (.iadd, 1) := by decide +kernel
theorem dX7_row_38 : decode cX7_row 38 = .ok (.invokevirtual 68, 3) := by decide +kernel
theorem dX7_row_41 : decode cX7_row 41 = .ok (.goto 5, 3) := by decide +kernel
theorem dX7_row_44 : decode cX7_row 44 = .ok (.bipush (-5), 2) := by decide +kernel
theorem dX7_row_46 : decode cX7_row 46 = .ok (.ireturn, 1) := by decide +kernel
set_option maxRecDepth 20000 in
theorem ggX7_leavesOf_X7_ofLeave : GoodIn wsX7_leavesOf wsX7_ofLeave := goodIn_r _ [6, 1, 7, 8, 9, 10, 11, 12, 13, 14, 15, 16, 17, 18, 19, 20, 21, 22, 23, 24, 25, 26] (by decide +kernel) (by decide +kernel)
set_option maxRecDepth 20000 in
theorem gX7_leavesOf_X7_ofLeave : GoodIn wsX7_leavesOf (wsV RX7 61 RX7 yX7_ofLeave wsX7_ofLeave) := goodIn_app (goodIn_of _ (by decide +kernel)) ggX7_leavesOf_X7_ofLeave
theorem dX7_leavesOf_0 : decode cX7_leavesOf 0 = .ok (.iconst 0, 1) := by decide +kernel
theorem dX7_leavesOf_1 : decode cX7_leavesOf 1 = .ok (.istore_n 3, 1) := by decide +kernel
theorem dX7_leavesOf_2 : decode cX7_leavesOf 2 = .ok (.iconst 0, 1) := by decide +kernel
theorem dX7_leavesOf_3 : decode cX7_leavesOf 3 = .ok (.istore 4, 2) := by decide +kernel
theorem dX7_leavesOf_5 : decode cX7_leavesOf 5 = .ok (.iload 4, 2) := by decide +kernel
theorem dX7_leavesOf_7 : decode cX7_leavesOf 7 = .ok (.aload_n 0, 1) := by decide +kernel
theorem dX7_leavesOf_8 : decode cX7_leavesOf 8 = .ok (.getfield 7, 3) := by decide +kernel
theorem dX7_leavesOf_11 : decode cX7_leavesOf 11 = .ok (.bipush 6, 2) := by decide +kernel
theorem dX7_leavesOf_13 : decode cX7_leavesOf 13 = .ok (.iaload, 1) := by decide +kernel
theorem dX7_leavesOf_14 : decode cX7_leavesOf 14 = .ok (.if_icmp .ge 56, 3) := by decide +kernel
theorem dX7_leavesOf_17 : decode cX7_leavesOf 17 = .ok (.iload_n 2, 1) := by decide +kernel
theorem dX7_leavesOf_18 : decode cX7_leavesOf 18 = .ok (.ifCond .eq 23, 3) := by decide +kernel
theorem dX7_leavesOf_21 : decode cX7_leavesOf 21 = .ok (.aload_n 0, 1) := by decide +kernel
theorem dX7_leavesOf_22 : decode cX7_leavesOf 22 = .ok (.iload 4, 2) := by decide +kernel
theorem dX7_leavesOf_24 : decode cX7_leavesOf 24 = .ok (.iconst 2, 1) := by decide +kernel
theorem dX7_leavesOf_25 : decode cX7_leavesOf 25 = .ok (.invokevirtual 61, 3) := by decide +kernel
theorem dX7_leavesOf_28 : decode cX7_leavesOf 28 = .ok (.aload_n 0, 1) := by decide +kernel
theorem dX7_leavesOf_29 : decode cX7_leavesOf 29 = .ok (.iload 4, 2) := by decide +kernel
theorem dX7_leavesOf_31 : decode cX7_leavesOf 31 = .ok (.iconst 1, 1) := by decide +kernel
theorem dX7_leavesOf_32 : decode cX7_leavesOf 32 = .ok (.invokevirtual 61, 3) := by decide +kernel
theorem dX7_leavesOf_35 : decode cX7_leavesOf 35 = .ok (.isub, 1) := by decide +kernel
theorem dX7_leavesOf_36 : decode cX7_leavesOf 36 = .ok (.iconst 1, 1) := by decide +kernel
theorem dX7_leavesOf_37 : decode cX7_leavesOf 37 = .ok (.iadd, 1) := by decide +kernel
theorem dX7_leavesOf_38 : decode cX7_leavesOf 38 = .ok (.goto 4, 3) := by decide +kernel
theorem dX7_leavesOf_41 : decode cX7_leavesOf 41 = .ok (.iconst 1, 1) := by decide +kernel
theorem dX7_leavesOf_42 : decode cX7_leavesOf 42 = .ok (.istore 5, 2) := by decide +kernel
theorem dX7_leavesOf_44 : decode cX7_leavesOf 44 = .ok (.iload_n 3, 1) := by decide +kernel
theorem dX7_leavesOf_45 : decode cX7_leavesOf 45 = .ok (.aload_n 0, 1) := by decide +kernel
theorem dX7_leavesOf_46 : decode cX7_leavesOf 46 = .ok (.iload 4, 2) := by decide +kernel
theorem dX7_leavesOf_48 : decode cX7_leavesOf 48 = .ok (.iconst 0, 1) := by decide +kernel
theorem dX7_leavesOf_49 : decode cX7_leavesOf 49 = .ok (.invokevirtual 61, 3) := by decide +kernel
theorem dX7_leavesOf_52 : decode cX7_leavesOf 52 = .ok (.iload_n 1, 1) := by decide +kernel
theorem dX7_leavesOf_53 : decode cX7_leavesOf 53 = .ok (.if_icmp .ne 8, 3) := by decide +kernel
theorem dX7_leavesOf_56 : decode cX7_leavesOf 56 = .ok (.iload 5, 2) := by decide +kernel
theorem dX7_leavesOf_58 : decode cX7_leavesOf 58 = .ok (.goto 4, 3) := by decide +kernel
theorem dX7_leavesOf_61 : decode cX7_leavesOf 61 = .ok (.iconst 0, 1) := by decide +kernel
theorem dX7_leavesOf_62 : decode cX7_leavesOf 62 = .ok (.iadd, 1) := by decide +kernel
theorem dX7_leavesOf_63 : decode cX7_leavesOf 63 = .ok (.istore_n 3, 1) := by decide +kernel
theorem dX7_leavesOf_64 : decode cX7_leavesOf 64 = .ok (.iinc 4 1, 3) := by decide +kernel
theorem dX7_leavesOf_67 : decode cX7_leavesOf 67 = .ok (.goto (-62), 3) := by decide +kernel
theorem dX7_leavesOf_70 : decode cX7_leavesOf 70 = .ok (.iload_n 3, 1) := by decide +kernel
theorem dX7_leavesOf_71 : decode cX7_leavesOf 71 = .ok (.ireturn, 1) := by decide +kernel
set_option maxRecDepth 20000 in
theorem ggX7_floorsOf_X7_placeIn : GoodIn wsX7_floorsOf wsX7_placeIn := goodIn_r _ [5, 6, 7, 8, 4, 9, 10, 11, 12, 13, 14, 15, 16, 17, 18, 19, 20, 21, 22, 23, 24, 25, 26, 27, 28, 29, 30] (by decide +kernel) (by decide +kernel)
set_option maxRecDepth 20000 in
theorem gX7_floorsOf_X7_placeIn : GoodIn wsX7_floorsOf (wsV RX7 96 RX7 yX7_placeIn wsX7_placeIn) := goodIn_app (goodIn_of _ (by decide +kernel)) ggX7_floorsOf_X7_placeIn
theorem dX7_floorsOf_0 : decode cX7_floorsOf 0 = .ok (.iconst 0, 1) := by decide +kernel
theorem dX7_floorsOf_1 : decode cX7_floorsOf 1 = .ok (.istore_n 2, 1) := by decide +kernel
theorem dX7_floorsOf_2 : decode cX7_floorsOf 2 = .ok (.iconst 0, 1) := by decide +kernel
theorem dX7_floorsOf_3 : decode cX7_floorsOf 3 = .ok (.istore_n 3, 1) := by decide +kernel
theorem dX7_floorsOf_4 : decode cX7_floorsOf 4 = .ok (.iload_n 3, 1) := by decide +kernel
theorem dX7_floorsOf_5 : decode cX7_floorsOf 5 = .ok (.bipush 10, 2) := by decide +kernel
theorem dX7_floorsOf_7 : decode cX7_floorsOf 7 = .ok (.if_icmp .ge 30, 3) := by decide +kernel
theorem dX7_floorsOf_10 : decode cX7_floorsOf 10 = .ok (.iload_n 2, 1) := by decide +kernel
theorem dX7_floorsOf_11 : decode cX7_floorsOf 11 = .ok (.aload_n 0, 1) := by decide +kernel
theorem dX7_floorsOf_12 : decode cX7_floorsOf 12 = .ok (.iload_n 3, 1) := by decide +kernel
theorem dX7_floorsOf_13 : decode cX7_floorsOf 13 = .ok (.iload_n 1, 1) := by decide +kernel
theorem dX7_floorsOf_14 : decode cX7_floorsOf 14 = .ok (.invokevirtual 96, 3) := by decide +kernel
theorem dX7_floorsOf_17 : decode cX7_floorsOf 17 = .ok (.bipush (-5), 2) := by decide +kernel
theorem dX7_floorsOf_19 : decode cX7_floorsOf 19 = .ok (.if_icmp .eq 9, 3) := by decide +kernel
theorem dX7_floorsOf_22 : decode cX7_floorsOf 22 = .ok (.iconst 1, 1) := by decide +kernel
theorem dX7_floorsOf_23 : decode cX7_floorsOf 23 = .ok (.iload_n 3, 1) := by decide +kernel
theorem dX7_floorsOf_24 : decode cX7_floorsOf 24 = .ok (.ishl, 1) := by decide +kernel
theorem dX7_floorsOf_25 : decode cX7_floorsOf 25 = .ok (.goto 4, 3) := by decide +kernel
theorem dX7_floorsOf_28 : decode cX7_floorsOf 28 = .ok (.iconst 0, 1) := by decide +kernel
theorem dX7_floorsOf_29 : decode cX7_floorsOf 29 = .ok (.ior, 1) := by decide +kernel
theorem dX7_floorsOf_30 : decode cX7_floorsOf 30 = .ok (.istore_n 2, 1) := by decide +kernel
theorem dX7_floorsOf_31 : decode cX7_floorsOf 31 = .ok (.iinc 3 1, 3) := by decide +kernel
theorem dX7_floorsOf_34 : decode cX7_floorsOf 34 = .ok (.goto (-30), 3) := by decide +kernel
theorem dX7_floorsOf_37 : decode cX7_floorsOf 37 = .ok (.iload_n 2, 1) := by decide +kernel
theorem dX7_floorsOf_38 : decode cX7_floorsOf 38 = .ok (.ireturn, 1) := by decide +kernel
set_option maxRecDepth 20000 in
theorem ggX7_person_X7_isPerson : GoodIn wsX7_person wsX7_isPerson := goodIn_r _ [7, 8, 9, 6, 10] (by decide +kernel) (by decide +kernel)
set_option maxRecDepth 20000 in
theorem gX7_person_X7_isPerson : GoodIn wsX7_person (va_wsS RX7 93 yX7_isPerson wsX7_isPerson) := goodIn_app (goodIn_of _ (by decide +kernel)) ggX7_person_X7_isPerson
set_option maxRecDepth 20000 in
theorem ggX7_person_X7_plans : GoodIn wsX7_person wsX7_plans := goodIn_r _ [14, 3, 15, 16, 2, 17, 18, 19, 6, 20, 21, 22, 23, 24, 25, 26, 27, 28, 29, 30, 31, 32, 33, 34, 35, 36, 37, 38, 39, 40, 41, 42, 43, 44, 45, 46, 47, 48, 49, 62, 63, 64, 65, 66, 67, 68, 69, 70, 71, 72, 73, 74, 75, 76, 77, 78, 79, 80, 81] (by decide +kernel) (by decide +kernel)
set_option maxRecDepth 20000 in
theorem gX7_person_X7_plans : GoodIn wsX7_person (wsV RX7 114 RX7 yX7_plans wsX7_plans) := goodIn_app (goodIn_of _ (by decide +kernel)) ggX7_person_X7_plans
set_option maxRecDepth 20000 in
theorem ggX7_person_X7_leavesOf : GoodIn wsX7_person wsX7_leavesOf := goodIn_r _ [53, 2, 37, 38, 39, 6, 40, 62, 63, 64, 65, 66, 67, 68, 69, 70, 71, 72, 73, 74, 75, 76, 77, 78, 79, 80, 81] (by decide +kernel) (by decide +kernel)
set_option maxRecDepth 20000 in
theorem gX7_person_X7_leavesOf : GoodIn wsX7_person (wsV RX7 206 RX7 yX7_leavesOf wsX7_leavesOf) := goodIn_app (goodIn_of _ (by decide +kernel)) ggX7_person_X7_leavesOf
set_option maxRecDepth 20000 in
theorem ggX7_person_X7_floorsOf : GoodIn wsX7_person wsX7_floorsOf := goodIn_r _ [57, 58, 59, 60, 6, 61, 21, 22, 23, 24, 2, 62, 63, 64, 65, 66, 67, 68, 69, 70, 71, 72, 73, 74, 75, 76, 77, 78, 79, 80, 81] (by decide +kernel) (by decide +kernel)
set_option maxRecDepth 20000 in
theorem gX7_person_X7_floorsOf : GoodIn wsX7_person (wsV RX7 210 RX7 yX7_floorsOf wsX7_floorsOf) := goodIn_app (goodIn_of _ (by decide +kernel)) ggX7_person_X7_floorsOf
theorem dX7_person_0 : decode cX7_person 0 = .ok (.aload_n 0, 1) := by decide +kernel
theorem dX7_person_1 : decode cX7_person 1 = .ok (.iconst 0, 1) := by decide +kernel
theorem dX7_person_2 : decode cX7_person 2 = .ok (.putfield 43, 3) := by decide +kernel
theorem dX7_person_5 : decode cX7_person 5 = .ok (.iload_n 1, 1) := by decide +kernel
theorem dX7_person_6 : decode cX7_person 6 = .ok (.invokestatic 93, 3) := by decide +kernel
theorem dX7_person_9 : decode cX7_person 9 = .ok (.ifCond .ne 5, 3) := by decide +kernel
theorem dX7_person_12 : decode cX7_person 12 = .ok (.iconst (-1), 1) := by decide +kernel
theorem dX7_person_13 : decode cX7_person 13 = .ok (.ireturn, 1) := by decide +kernel
theorem dX7_person_14 : decode cX7_person 14 = .ok (.aload_n 0, 1) := by decide +kernel
theorem dX7_person_15 : decode cX7_person 15 = .ok (.aload_n 0, 1) := by decide +kernel
theorem dX7_person_16 : decode cX7_person 16 = .ok (.getfield 7, 3) := by decide +kernel
theorem dX7_person_19 : decode cX7_person 19 = .ok (.iconst 3, 1) := by decide +kernel
theorem dX7_person_20 : decode cX7_person 20 = .ok (.iaload, 1) := by decide +kernel
theorem dX7_person_21 : decode cX7_person 21 = .ok (.invokevirtual 114, 3) := by decide +kernel
theorem dX7_person_24 : decode cX7_person 24 = .ok (.iload_n 2, 1) := by decide +kernel
theorem dX7_person_25 : decode cX7_person 25 = .ok (.tableswitch 96 0 5 #[39, 54, 61, 68, 74, 89], 39) := by decide +kernel
theorem dX7_person_64 : decode cX7_person 64 = .ok (.aload_n 0, 1) := by decide +kernel
theorem dX7_person_65 : decode cX7_person 65 = .ok (.getfield 7, 3) := by decide +kernel
theorem dX7_person_68 : decode cX7_person 68 = .ok (.sipush 318, 3) := by decide +kernel
theorem dX7_person_71 : decode cX7_person 71 = .ok (.iconst 2, 1) := by decide +kernel
theorem dX7_person_72 : decode cX7_person 72 = .ok (.iload_n 1, 1) := by decide +kernel
theorem dX7_person_73 : decode cX7_person 73 = .ok (.imul, 1) := by decide +kernel
theorem dX7_person_74 : decode cX7_person 74 = .ok (.iadd, 1) := by decide +kernel
theorem dX7_person_75 : decode cX7_person 75 = .ok (.iconst 0, 1) := by decide +kernel
theorem dX7_person_76 : decode cX7_person 76 = .ok (.iadd, 1) := by decide +kernel
theorem dX7_person_77 : decode cX7_person 77 = .ok (.iaload, 1) := by decide +kernel
theorem dX7_person_78 : decode cX7_person 78 = .ok (.ireturn, 1) := by decide +kernel
theorem dX7_person_79 : decode cX7_person 79 = .ok (.aload_n 0, 1) := by decide +kernel
theorem dX7_person_80 : decode cX7_person 80 = .ok (.iload_n 1, 1) := by decide +kernel
theorem dX7_person_81 : decode cX7_person 81 = .ok (.iconst 0, 1) := by decide +kernel
theorem dX7_person_82 : decode cX7_person 82 = .ok (.invokevirtual 206, 3) := by decide +kernel
theorem dX7_person_85 : decode cX7_person 85 = .ok (.ireturn, 1) := by decide +kernel
theorem dX7_person_86 : decode cX7_person 86 = .ok (.aload_n 0, 1) := by decide +kernel
theorem dX7_person_87 : decode cX7_person 87 = .ok (.iload_n 1, 1) := by decide +kernel
theorem dX7_person_88 : decode cX7_person 88 = .ok (.iconst 1, 1) := by decide +kernel
theorem dX7_person_89 : decode cX7_person 89 = .ok (.invokevirtual 206, 3) := by decide +kernel
theorem dX7_person_92 : decode cX7_person 92 = .ok (.ireturn, 1) := by decide +kernel
theorem dX7_person_93 : decode cX7_person 93 = .ok (.aload_n 0, 1) := by decide +kernel
theorem dX7_person_94 : decode cX7_person 94 = .ok (.iload_n 1, 1) := by decide +kernel
theorem dX7_person_95 : decode cX7_person 95 = .ok (.invokevirtual 210, 3) := by decide +kernel
theorem dX7_person_98 : decode cX7_person 98 = .ok (.ireturn, 1) := by decide +kernel
theorem dX7_person_99 : decode cX7_person 99 = .ok (.aload_n 0, 1) := by decide +kernel
theorem dX7_person_100 : decode cX7_person 100 = .ok (.getfield 7, 3) := by decide +kernel
theorem dX7_person_103 : decode cX7_person 103 = .ok (.sipush 318, 3) := by decide +kernel
theorem dX7_person_106 : decode cX7_person 106 = .ok (.iconst 2, 1) := by decide +kernel
theorem dX7_person_107 : decode cX7_person 107 = .ok (.iload_n 1, 1) := by decide +kernel
theorem dX7_person_108 : decode cX7_person 108 = .ok (.imul, 1) := by decide +kernel
theorem dX7_person_109 : decode cX7_person 109 = .ok (.iadd, 1) := by decide +kernel
theorem dX7_person_110 : decode cX7_person 110 = .ok (.iconst 1, 1) := by decide +kernel
theorem dX7_person_111 : decode cX7_person 111 = .ok (.iadd, 1) := by decide +kernel
theorem dX7_person_112 : decode cX7_person 112 = .ok (.iaload, 1) := by decide +kernel
theorem dX7_person_113 : decode cX7_person 113 = .ok (.ireturn, 1) := by decide +kernel
theorem dX7_person_114 : decode cX7_person 114 = .ok (.aload_n 0, 1) := by decide +kernel
theorem dX7_person_115 : decode cX7_person 115 = .ok (.getfield 25, 3) := by decide +kernel
theorem dX7_person_118 : decode cX7_person 118 = .ok (.iload_n 1, 1) := by decide +kernel
theorem dX7_person_119 : decode cX7_person 119 = .ok (.iaload, 1) := by decide +kernel
theorem dX7_person_120 : decode cX7_person 120 = .ok (.ireturn, 1) := by decide +kernel
theorem dX7_person_121 : decode cX7_person 121 = .ok (.bipush (-2), 2) := by decide +kernel
theorem dX7_person_123 : decode cX7_person 123 = .ok (.ireturn, 1) := by decide +kernel
set_option maxRecDepth 20000 in
theorem ggX7_log_X7_isFloor : GoodIn wsX7_log wsX7_isFloor := goodIn_r _ [5, 6, 7, 4, 8] (by decide +kernel) (by decide +kernel)
set_option maxRecDepth 20000 in
theorem gX7_log_X7_isFloor : GoodIn wsX7_log (va_wsS RX7 89 yX7_isFloor wsX7_isFloor) := goodIn_app (goodIn_of _ (by decide +kernel)) ggX7_log_X7_isFloor
set_option maxRecDepth 20000 in
theorem ggX7_log_X7_in : GoodIn wsX7_log wsX7_in := goodIn_r _ [8] (by decide +kernel) (by decide +kernel)
set_option maxRecDepth 20000 in
theorem gX7_log_X7_in : GoodIn wsX7_log (va_wsS RX7 54 yX7_in wsX7_in) := goodIn_app (goodIn_of _ (by decide +kernel)) ggX7_log_X7_in
set_option maxRecDepth 20000 in
theorem ggX7_log_X7_of : GoodIn wsX7_log wsX7_of := goodIn_r _ [12, 13, 14, 15, 16, 17, 18, 19, 20, 21, 22, 23, 24, 25, 26, 27, 28, 29, 30, 31, 32, 33] (by decide +kernel) (by decide +kernel)
set_option maxRecDepth 20000 in
theorem gX7_log_X7_of : GoodIn wsX7_log (wsV RX7 68 RX7 yX7_of wsX7_of) := goodIn_app (goodIn_of _ (by decide +kernel)) ggX7_log_X7_of
theorem dX7_log_0 : decode cX7_log 0 = .ok (.aload_n 0, 1) := by decide +kernel
theorem dX7_log_1 : decode cX7_log 1 = .ok (.iconst 0, 1) := by decide +kernel
theorem dX7_log_2 : decode cX7_log 2 = .ok (.putfield 43, 3) := by decide +kernel
theorem dX7_log_5 : decode cX7_log 5 = .ok (.iload_n 1, 1) := by decide +kernel
theorem dX7_log_6 : decode cX7_log 6 = .ok (.invokestatic 89, 3) := by decide +kernel
theorem dX7_log_9 : decode cX7_log 9 = .ok (.ifCond .ne 5, 3) := by decide +kernel
theorem dX7_log_12 : decode cX7_log 12 = .ok (.iconst (-1), 1) := by decide +kernel
theorem dX7_log_13 : decode cX7_log 13 = .ok (.ireturn, 1) := by decide +kernel
theorem dX7_log_14 : decode cX7_log 14 = .ok (.iload_n 2, 1) := by decide +kernel
theorem dX7_log_15 : decode cX7_log 15 = .ok (.ifCond .lt 12, 3) := by decide +kernel
theorem dX7_log_18 : decode cX7_log 18 = .ok (.iload_n 3, 1) := by decide +kernel
theorem dX7_log_19 : decode cX7_log 19 = .ok (.iconst 0, 1) := by decide +kernel
theorem dX7_log_20 : decode cX7_log 20 = .ok (.iconst 2, 1) := by decide +kernel
theorem dX7_log_21 : decode cX7_log 21 = .ok (.invokestatic 54, 3) := by decide +kernel
theorem dX7_log_24 : decode cX7_log 24 = .ok (.ifCond .ne 6, 3) := by decide +kernel
theorem dX7_log_27 : decode cX7_log 27 = .ok (.bipush (-2), 2) := by decide +kernel
theorem dX7_log_29 : decode cX7_log 29 = .ok (.ireturn, 1) := by decide +kernel
theorem dX7_log_30 : decode cX7_log 30 = .ok (.aload_n 0, 1) := by decide +kernel
theorem dX7_log_31 : decode cX7_log 31 = .ok (.iload_n 1, 1) := by decide +kernel
theorem dX7_log_32 : decode cX7_log 32 = .ok (.bipush 8, 2) := by decide +kernel
theorem dX7_log_34 : decode cX7_log 34 = .ok (.invokevirtual 68, 3) := by decide +kernel
theorem dX7_log_37 : decode cX7_log 37 = .ok (.istore 4, 2) := by decide +kernel
theorem dX7_log_39 : decode cX7_log 39 = .ok (.iload_n 2, 1) := by decide +kernel
theorem dX7_log_40 : decode cX7_log 40 = .ok (.iload 4, 2) := by decide +kernel
theorem dX7_log_42 : decode cX7_log 42 = .ok (.if_icmp .ge 24, 3) := by decide +kernel
theorem dX7_log_45 : decode cX7_log 45 = .ok (.aload_n 0, 1) := by decide +kernel
theorem dX7_log_46 : decode cX7_log 46 = .ok (.iload_n 1, 1) := by decide +kernel
theorem dX7_log_47 : decode cX7_log 47 = .ok (.bipush 9, 2) := by decide +kernel
theorem dX7_log_49 : decode cX7_log 49 = .ok (.iconst 3, 1) := by decide +kernel
theorem dX7_log_50 : decode cX7_log 50 = .ok (.iload 4, 2) := by decide +kernel
theorem dX7_log_52 : decode cX7_log 52 = .ok (.iconst 1, 1) := by decide +kernel
theorem dX7_log_53 : decode cX7_log 53 = .ok (.isub, 1) := by decide +kernel
theorem dX7_log_54 : decode cX7_log 54 = .ok (.iload_n 2, 1) := by decide +kernel
theorem dX7_log_55 : decode cX7_log 55 = .ok (.isub, 1) := by decide +kernel
theorem dX7_log_56 : decode cX7_log 56 = .ok (.imul, 1) := by decide +kernel
theorem dX7_log_57 : decode cX7_log 57 = .ok (.iadd, 1) := by decide +kernel
theorem dX7_log_58 : decode cX7_log 58 = .ok (.iload_n 3, 1) := by decide +kernel
theorem dX7_log_59 : decode cX7_log 59 = .ok (.iadd, 1) := by decide +kernel
theorem dX7_log_60 : decode cX7_log 60 = .ok (.invokevirtual 68, 3) := by decide +kernel
theorem dX7_log_63 : decode cX7_log 63 = .ok (.goto 5, 3) := by decide +kernel
theorem dX7_log_66 : decode cX7_log 66 = .ok (.bipush (-5), 2) := by decide +kernel
theorem dX7_log_68 : decode cX7_log 68 = .ok (.ireturn, 1) := by decide +kernel
set_option maxRecDepth 20000 in
theorem ggX7_dueIn_X7_of : GoodIn wsX7_dueIn wsX7_of := goodIn_r _ [5, 6, 7, 8, 9, 10, 11, 12, 13, 14, 15, 16, 17, 18, 19, 20, 21, 22, 23, 24, 25, 26] (by decide +kernel) (by decide +kernel)
set_option maxRecDepth 20000 in
theorem gX7_dueIn_X7_of : GoodIn wsX7_dueIn (wsV RX7 68 RX7 yX7_of wsX7_of) := goodIn_app (goodIn_of _ (by decide +kernel)) ggX7_dueIn_X7_of
theorem dX7_dueIn_0 : decode cX7_dueIn 0 = .ok (.iconst 0, 1) := by decide +kernel
theorem dX7_dueIn_1 : decode cX7_dueIn 1 = .ok (.istore_n 2, 1) := by decide +kernel
theorem dX7_dueIn_2 : decode cX7_dueIn 2 = .ok (.iconst 0, 1) := by decide +kernel
theorem dX7_dueIn_3 : decode cX7_dueIn 3 = .ok (.istore_n 3, 1) := by decide +kernel
theorem dX7_dueIn_4 : decode cX7_dueIn 4 = .ok (.iload_n 3, 1) := by decide +kernel
theorem dX7_dueIn_5 : decode cX7_dueIn 5 = .ok (.bipush 10, 2) := by decide +kernel
theorem dX7_dueIn_7 : decode cX7_dueIn 7 = .ok (.if_icmp .ge 40, 3) := by decide +kernel
theorem dX7_dueIn_10 : decode cX7_dueIn 10 = .ok (.iload_n 2, 1) := by decide +kernel
theorem dX7_dueIn_11 : decode cX7_dueIn 11 = .ok (.aload_n 0, 1) := by decide +kernel
theorem dX7_dueIn_12 : decode cX7_dueIn 12 = .ok (.iload_n 3, 1) := by decide +kernel
theorem dX7_dueIn_13 : decode cX7_dueIn 13 = .ok (.iconst 0, 1) := by decide +kernel
theorem dX7_dueIn_14 : decode cX7_dueIn 14 = .ok (.invokevirtual 68, 3) := by decide +kernel
theorem dX7_dueIn_17 : decode cX7_dueIn 17 = .ok (.ifCond .le 21, 3) := by decide +kernel
theorem dX7_dueIn_20 : decode cX7_dueIn 20 = .ok (.aload_n 0, 1) := by decide +kernel
theorem dX7_dueIn_21 : decode cX7_dueIn 21 = .ok (.iload_n 3, 1) := by decide +kernel
theorem dX7_dueIn_22 : decode cX7_dueIn 22 = .ok (.bipush 27, 2) := by decide +kernel
theorem dX7_dueIn_24 : decode cX7_dueIn 24 = .ok (.iload_n 1, 1) := by decide +kernel
theorem dX7_dueIn_25 : decode cX7_dueIn 25 = .ok (.iadd, 1) := by decide +kernel
theorem dX7_dueIn_26 : decode cX7_dueIn 26 = .ok (.invokevirtual 68, 3) := by decide +kernel
theorem dX7_dueIn_29 : decode cX7_dueIn 29 = .ok (.ifCond .ne 9, 3) := by decide +kernel
theorem dX7_dueIn_32 : decode cX7_dueIn 32 = .ok (.iconst 1, 1) := by decide +kernel
theorem dX7_dueIn_33 : decode cX7_dueIn 33 = .ok (.iload_n 3, 1) := by decide +kernel
theorem dX7_dueIn_34 : decode cX7_dueIn 34 = .ok (.ishl, 1) := by decide +kernel
theorem dX7_dueIn_35 : decode cX7_dueIn 35 = .ok (.goto 4, 3) := by decide +kernel
theorem dX7_dueIn_38 : decode cX7_dueIn 38 = .ok (.iconst 0, 1) := by decide +kernel
theorem dX7_dueIn_39 : decode cX7_dueIn 39 = .ok (.ior, 1) := by decide +kernel
theorem dX7_dueIn_40 : decode cX7_dueIn 40 = .ok (.istore_n 2, 1) := by decide +kernel
theorem dX7_dueIn_41 : decode cX7_dueIn 41 = .ok (.iinc 3 1, 3) := by decide +kernel
theorem dX7_dueIn_44 : decode cX7_dueIn 44 = .ok (.goto (-40), 3) := by decide +kernel
theorem dX7_dueIn_47 : decode cX7_dueIn 47 = .ok (.iload_n 2, 1) := by decide +kernel
theorem dX7_dueIn_48 : decode cX7_dueIn 48 = .ok (.ireturn, 1) := by decide +kernel
set_option maxRecDepth 20000 in
theorem ggX7_due_X7_in : GoodIn wsX7_due wsX7_in := goodIn_r _ [5] (by decide +kernel) (by decide +kernel)
set_option maxRecDepth 20000 in
theorem gX7_due_X7_in : GoodIn wsX7_due (va_wsS RX7 54 yX7_in wsX7_in) := goodIn_app (goodIn_of _ (by decide +kernel)) ggX7_due_X7_in
set_option maxRecDepth 20000 in
theorem ggX7_due_X7_dueIn : GoodIn wsX7_due wsX7_dueIn := goodIn_r _ [9, 10, 11, 12, 4, 13, 14, 15, 16, 17, 18, 19, 20, 21, 22, 23, 24, 25, 26, 27, 28, 29, 30, 31, 32, 33, 34] (by decide +kernel) (by decide +kernel)
set_option maxRecDepth 20000 in
theorem gX7_due_X7_dueIn : GoodIn wsX7_due (wsV RX7 213 RX7 yX7_dueIn wsX7_dueIn) := goodIn_app (goodIn_of _ (by decide +kernel)) ggX7_due_X7_dueIn
theorem dX7_due_0 : decode cX7_due 0 = .ok (.aload_n 0, 1) := by decide +kernel
theorem dX7_due_1 : decode cX7_due 1 = .ok (.iconst 0, 1) := by decide +kernel
theorem dX7_due_2 : decode cX7_due 2 = .ok (.putfield 43, 3) := by decide +kernel
theorem dX7_due_5 : decode cX7_due 5 = .ok (.iload_n 1, 1) := by decide +kernel
theorem dX7_due_6 : decode cX7_due 6 = .ok (.iconst 0, 1) := by decide +kernel
theorem dX7_due_7 : decode cX7_due 7 = .ok (.iconst 3, 1) := by decide +kernel
theorem dX7_due_8 : decode cX7_due 8 = .ok (.invokestatic 54, 3) := by decide +kernel
theorem dX7_due_11 : decode cX7_due 11 = .ok (.ifCond .eq 11, 3) := by decide +kernel
theorem dX7_due_14 : decode cX7_due 14 = .ok (.aload_n 0, 1) := by decide +kernel
theorem dX7_due_15 : decode cX7_due 15 = .ok (.iload_n 1, 1) := by decide +kernel
theorem dX7_due_16 : decode cX7_due 16 = .ok (.invokevirtual 213, 3) := by decide +kernel
theorem dX7_due_19 : decode cX7_due 19 = .ok (.goto 4, 3) := by decide +kernel
theorem dX7_due_22 : decode cX7_due 22 = .ok (.iconst (-1), 1) := by decide +kernel
theorem dX7_due_23 : decode cX7_due 23 = .ok (.ireturn, 1) := by decide +kernel
set_option maxRecDepth 20000 in
theorem ggX7_reason_X7_isFloor : GoodIn wsX7_reason wsX7_isFloor := goodIn_r _ [7, 8, 9, 6, 10] (by decide +kernel) (by decide +kernel)
set_option maxRecDepth 20000 in
theorem gX7_reason_X7_isFloor : GoodIn wsX7_reason (va_wsS RX7 89 yX7_isFloor wsX7_isFloor) := goodIn_app (goodIn_of _ (by decide +kernel)) ggX7_reason_X7_isFloor
set_option maxRecDepth 20000 in
theorem ggX7_reason_X7_isPerson : GoodIn wsX7_reason wsX7_isPerson := goodIn_r _ [13, 8, 9, 6, 10] (by decide +kernel) (by decide +kernel)
set_option maxRecDepth 20000 in
theorem gX7_reason_X7_isPerson : GoodIn wsX7_reason (va_wsS RX7 93 yX7_isPerson wsX7_isPerson) := goodIn_app (goodIn_of _ (by decide +kernel)) ggX7_reason_X7_isPerson
set_option maxRecDepth 20000 in
theorem ggX7_reason_X7_isDay : GoodIn wsX7_reason wsX7_isDay := goodIn_r _ [16, 8, 9, 6, 10] (by decide +kernel) (by decide +kernel)
set_option maxRecDepth 20000 in
theorem gX7_reason_X7_isDay : GoodIn wsX7_reason (va_wsS RX7 111 yX7_isDay wsX7_isDay) := goodIn_app (goodIn_of _ (by decide +kernel)) ggX7_reason_X7_isDay
set_option maxRecDepth 20000 in
theorem ggX7_reason_X7_plans : GoodIn wsX7_reason wsX7_plans := goodIn_r _ [20, 2, 21, 22, 3, 23, 24, 25, 6, 26, 27, 28, 29, 30, 31, 32, 33, 34, 35, 36, 37, 38, 39, 40, 41, 42, 43, 44, 45, 46, 47, 48, 49, 50, 51, 52, 53, 54, 55, 60, 61, 62, 63, 64, 65, 66, 67, 68, 69, 70, 71, 72, 73, 74, 75, 76, 77, 78, 79] (by decide +kernel) (by decide +kernel)
set_option maxRecDepth 20000 in
theorem gX7_reason_X7_plans : GoodIn wsX7_reason (wsV RX7 114 RX7 yX7_plans wsX7_plans) := goodIn_app (goodIn_of _ (by decide +kernel)) ggX7_reason_X7_plans
set_option maxRecDepth 20000 in
theorem ggX7_reason_X7_leaveOn : GoodIn wsX7_reason wsX7_leaveOn := goodIn_r _ [42, 3, 43, 44, 45, 6, 46, 60, 61, 62, 63, 64, 65, 66, 67, 68, 69, 70, 71, 72, 73, 74, 75, 76, 77, 78, 79] (by decide +kernel) (by decide +kernel)
set_option maxRecDepth 20000 in
theorem gX7_reason_X7_leaveOn : GoodIn wsX7_reason (wsV RX7 65 RX7 yX7_leaveOn wsX7_leaveOn) := goodIn_app (goodIn_of _ (by decide +kernel)) ggX7_reason_X7_leaveOn
set_option maxRecDepth 20000 in
theorem ggX7_reason_X7_placeIn : GoodIn wsX7_reason wsX7_placeIn := goodIn_r _ [59, 27, 28, 29, 6, 30, 3, 60, 61, 62, 63, 64, 65, 66, 67, 68, 69, 70, 71, 72, 73, 74, 75, 76, 77, 78, 79] (by decide +kernel) (by decide +kernel)
set_option maxRecDepth 20000 in
theorem gX7_reason_X7_placeIn : GoodIn wsX7_reason (wsV RX7 96 RX7 yX7_placeIn wsX7_placeIn) := goodIn_app (goodIn_of _ (by decide +kernel)) ggX7_reason_X7_placeIn
theorem dX7_reason_0 : decode cX7_reason 0 = .ok (.aload_n 0, 1) := by decide +kernel
theorem dX7_reason_1 : decode cX7_reason 1 = .ok (.iconst 0, 1) := by decide +kernel
theorem dX7_reason_2 : decode cX7_reason 2 = .ok (.putfield 43, 3) := by decide +kernel
theorem dX7_reason_5 : decode cX7_reason 5 = .ok (.iload_n 2, 1) := by decide +kernel
theorem dX7_reason_6 : decode cX7_reason 6 = .ok (.invokestatic 89, 3) := by decide +kernel
theorem dX7_reason_9 : decode cX7_reason 9 = .ok (.ifCond .eq 10, 3) := by decide +kernel
theorem dX7_reason_12 : decode cX7_reason 12 = .ok (.iload_n 3, 1) := by decide +kernel
theorem dX7_reason_13 : decode cX7_reason 13 = .ok (.invokestatic 93, 3) := by decide +kernel
theorem dX7_reason_16 : decode cX7_reason 16 = .ok (.ifCond .ne 5, 3) := by decide +kernel
theorem dX7_reason_19 : decode cX7_reason 19 = .ok (.iconst (-1), 1) := by decide +kernel
theorem dX7_reason_20 : decode cX7_reason 20 = .ok (.ireturn, 1) := by decide +kernel
theorem dX7_reason_21 : decode cX7_reason 21 = .ok (.iload_n 1, 1) := by decide +kernel
theorem dX7_reason_22 : decode cX7_reason 22 = .ok (.invokestatic 111, 3) := by decide +kernel
theorem dX7_reason_25 : decode cX7_reason 25 = .ok (.ifCond .ne 6, 3) := by decide +kernel
theorem dX7_reason_28 : decode cX7_reason 28 = .ok (.bipush (-2), 2) := by decide +kernel
theorem dX7_reason_30 : decode cX7_reason 30 = .ok (.ireturn, 1) := by decide +kernel
theorem dX7_reason_31 : decode cX7_reason 31 = .ok (.aload_n 0, 1) := by decide +kernel
theorem dX7_reason_32 : decode cX7_reason 32 = .ok (.iload_n 1, 1) := by decide +kernel
theorem dX7_reason_33 : decode cX7_reason 33 = .ok (.invokevirtual 114, 3) := by decide +kernel
theorem dX7_reason_36 : decode cX7_reason 36 = .ok (.aload_n 0, 1) := by decide +kernel
theorem dX7_reason_37 : decode cX7_reason 37 = .ok (.getfield 25, 3) := by decide +kernel
theorem dX7_reason_40 : decode cX7_reason 40 = .ok (.iload_n 3, 1) := by decide +kernel
theorem dX7_reason_41 : decode cX7_reason 41 = .ok (.iaload, 1) := by decide +kernel
theorem dX7_reason_42 : decode cX7_reason 42 = .ok (.iload_n 2, 1) := by decide +kernel
theorem dX7_reason_43 : decode cX7_reason 43 = .ok (.if_icmp .ne 5, 3) := by decide +kernel
theorem dX7_reason_46 : decode cX7_reason 46 = .ok (.iconst 0, 1) := by decide +kernel
theorem dX7_reason_47 : decode cX7_reason 47 = .ok (.ireturn, 1) := by decide +kernel
theorem dX7_reason_48 : decode cX7_reason 48 = .ok (.aload_n 0, 1) := by decide +kernel
theorem dX7_reason_49 : decode cX7_reason 49 = .ok (.iload_n 3, 1) := by decide +kernel
theorem dX7_reason_50 : decode cX7_reason 50 = .ok (.iload_n 1, 1) := by decide +kernel
theorem dX7_reason_51 : decode cX7_reason 51 = .ok (.invokevirtual 65, 3) := by decide +kernel
theorem dX7_reason_54 : decode cX7_reason 54 = .ok (.bipush (-5), 2) := by decide +kernel
theorem dX7_reason_56 : decode cX7_reason 56 = .ok (.if_icmp .eq 5, 3) := by decide +kernel
theorem dX7_reason_59 : decode cX7_reason 59 = .ok (.iconst 1, 1) := by decide +kernel
theorem dX7_reason_60 : decode cX7_reason 60 = .ok (.ireturn, 1) := by decide +kernel
theorem dX7_reason_61 : decode cX7_reason 61 = .ok (.aload_n 0, 1) := by decide +kernel
theorem dX7_reason_62 : decode cX7_reason 62 = .ok (.getfield 7, 3) := by decide +kernel
theorem dX7_reason_65 : decode cX7_reason 65 = .ok (.sipush 318, 3) := by decide +kernel
theorem dX7_reason_68 : decode cX7_reason 68 = .ok (.iconst 2, 1) := by decide +kernel
theorem dX7_reason_69 : decode cX7_reason 69 = .ok (.iload_n 3, 1) := by decide +kernel
theorem dX7_reason_70 : decode cX7_reason 70 = .ok (.imul, 1) := by decide +kernel
theorem dX7_reason_71 : decode cX7_reason 71 = .ok (.iadd, 1) := by decide +kernel
theorem dX7_reason_72 : decode cX7_reason 72 = .ok (.iconst 0, 1) := by decide +kernel
theorem dX7_reason_73 : decode cX7_reason 73 = .ok (.iadd, 1) := by decide +kernel
theorem dX7_reason_74 : decode cX7_reason 74 = .ok (.iaload, 1) := by decide +kernel
theorem dX7_reason_75 : decode cX7_reason 75 = .ok (.iload_n 1, 1) := by decide +kernel
theorem dX7_reason_76 : decode cX7_reason 76 = .ok (.if_icmp .ge 5, 3) := by decide +kernel
theorem dX7_reason_79 : decode cX7_reason 79 = .ok (.iconst 2, 1) := by decide +kernel
theorem dX7_reason_80 : decode cX7_reason 80 = .ok (.ireturn, 1) := by decide +kernel
theorem dX7_reason_81 : decode cX7_reason 81 = .ok (.aload_n 0, 1) := by decide +kernel
theorem dX7_reason_82 : decode cX7_reason 82 = .ok (.getfield 25, 3) := by decide +kernel
theorem dX7_reason_85 : decode cX7_reason 85 = .ok (.iload_n 3, 1) := by decide +kernel
theorem dX7_reason_86 : decode cX7_reason 86 = .ok (.iaload, 1) := by decide +kernel
theorem dX7_reason_87 : decode cX7_reason 87 = .ok (.bipush (-5), 2) := by decide +kernel
theorem dX7_reason_89 : decode cX7_reason 89 = .ok (.if_icmp .eq 7, 3) := by decide +kernel
theorem dX7_reason_92 : decode cX7_reason 92 = .ok (.iconst 3, 1) := by decide +kernel
theorem dX7_reason_93 : decode cX7_reason 93 = .ok (.goto 19, 3) := by decide +kernel
theorem dX7_reason_96 : decode cX7_reason 96 = .ok (.aload_n 0, 1) := by decide +kernel
theorem dX7_reason_97 : decode cX7_reason 97 = .ok (.iload_n 2, 1) := by decide +kernel
theorem dX7_reason_98 : decode cX7_reason 98 = .ok (.iload_n 3, 1) := by decide +kernel
theorem dX7_reason_99 : decode cX7_reason 99 = .ok (.invokevirtual 96, 3) := by decide +kernel
theorem dX7_reason_102 : decode cX7_reason 102 = .ok (.bipush (-5), 2) := by decide +kernel
theorem dX7_reason_104 : decode cX7_reason 104 = .ok (.if_icmp .ne 7, 3) := by decide +kernel
theorem dX7_reason_107 : decode cX7_reason 107 = .ok (.iconst 4, 1) := by decide +kernel
theorem dX7_reason_108 : decode cX7_reason 108 = .ok (.goto 4, 3) := by decide +kernel
theorem dX7_reason_111 : decode cX7_reason 111 = .ok (.iconst 5, 1) := by decide +kernel
theorem dX7_reason_112 : decode cX7_reason 112 = .ok (.ireturn, 1) := by decide +kernel
set_option maxRecDepth 20000 in
theorem ggX7_firstShort_X7_isFloor : GoodIn wsX7_firstShort wsX7_isFloor := goodIn_r _ [6, 7, 8, 5, 9] (by decide +kernel) (by decide +kernel)
set_option maxRecDepth 20000 in
theorem gX7_firstShort_X7_isFloor : GoodIn wsX7_firstShort (va_wsS RX7 89 yX7_isFloor wsX7_isFloor) := goodIn_app (goodIn_of _ (by decide +kernel)) ggX7_firstShort_X7_isFloor
set_option maxRecDepth 20000 in
theorem ggX7_firstShort_X7_plans : GoodIn wsX7_firstShort wsX7_plans := goodIn_r _ [13, 14, 15, 16, 2, 17, 18, 19, 5, 20, 21, 22, 23, 24, 25, 26, 27, 28, 29, 30, 31, 32, 33, 34, 35, 36, 37, 38, 39, 40, 41, 42, 43, 44, 45, 46, 47, 48, 49, 54, 55, 56, 57, 58, 59, 60, 61, 62, 63, 64, 65, 66, 67, 68, 69, 70, 71, 72, 73] (by decide +kernel) (by decide +kernel)
set_option maxRecDepth 20000 in
theorem gX7_firstShort_X7_plans : GoodIn wsX7_firstShort (wsV RX7 114 RX7 yX7_plans wsX7_plans) := goodIn_app (goodIn_of _ (by decide +kernel)) ggX7_firstShort_X7_plans
set_option maxRecDepth 20000 in
theorem ggX7_firstShort_X7_shortBy : GoodIn wsX7_firstShort wsX7_shortBy := goodIn_r _ [53, 15, 21, 22, 23, 5, 24, 2, 54, 55, 56, 57, 58, 59, 60, 61, 62, 63, 64, 65, 66, 67, 68, 69, 70, 71, 72, 73] (by decide +kernel) (by decide +kernel)
set_option maxRecDepth 20000 in
theorem gX7_firstShort_X7_shortBy : GoodIn wsX7_firstShort (wsV RX7 118 RX7 yX7_shortBy wsX7_shortBy) := goodIn_app (goodIn_of _ (by decide +kernel)) ggX7_firstShort_X7_shortBy
theorem dX7_firstShort_0 : decode cX7_firstShort 0 = .ok (.aload_n 0, 1) := by decide +kernel
theorem dX7_firstShort_1 : decode cX7_firstShort 1 = .ok (.iconst 0, 1) := by decide +kernel
theorem dX7_firstShort_2 : decode cX7_firstShort 2 = .ok (.putfield 43, 3) := by decide +kernel
theorem dX7_firstShort_5 : decode cX7_firstShort 5 = .ok (.iload_n 1, 1) := by decide +kernel
theorem dX7_firstShort_6 : decode cX7_firstShort 6 = .ok (.invokestatic 89, 3) := by decide +kernel
theorem dX7_firstShort_9 : decode cX7_firstShort 9 = .ok (.ifCond .ne 5, 3) := by decide +kernel
theorem dX7_firstShort_12 : decode cX7_firstShort 12 = .ok (.iconst (-1), 1) := by decide +kernel
theorem dX7_firstShort_13 : decode cX7_firstShort 13 = .ok (.ireturn, 1) := by decide +kernel
theorem dX7_firstShort_14 : decode cX7_firstShort 14 = .ok (.aload_n 0, 1) := by decide +kernel
theorem dX7_firstShort_15 : decode cX7_firstShort 15 = .ok (.getfield 7, 3) := by decide +kernel
theorem dX7_firstShort_18 : decode cX7_firstShort 18 = .ok (.iconst 3, 1) := by decide +kernel
theorem dX7_firstShort_19 : decode cX7_firstShort 19 = .ok (.iaload, 1) := by decide +kernel
theorem dX7_firstShort_20 : decode cX7_firstShort 20 = .ok (.istore_n 2, 1) := by decide +kernel
theorem dX7_firstShort_21 : decode cX7_firstShort 21 = .ok (.iload_n 2, 1) := by decide +kernel
theorem dX7_firstShort_22 : decode cX7_firstShort 22 = .ok (.sipush 399, 3) := by decide +kernel
theorem dX7_firstShort_25 : decode cX7_firstShort 25 = .ok (.if_icmp .gt 24, 3) := by decide +kernel
theorem dX7_firstShort_28 : decode cX7_firstShort 28 = .ok (.aload_n 0, 1) := by decide +kernel
theorem dX7_firstShort_29 : decode cX7_firstShort 29 = .ok (.iload_n 2, 1) := by decide +kernel
theorem dX7_firstShort_30 : decode cX7_firstShort 30 = .ok (.invokevirtual 114, 3) := by decide +kernel
theorem dX7_firstShort_33 : decode cX7_firstShort 33 = .ok (.aload_n 0, 1) := by decide +kernel
theorem dX7_firstShort_34 : decode cX7_firstShort 34 = .ok (.iload_n 1, 1) := by decide +kernel
theorem dX7_firstShort_35 : decode cX7_firstShort 35 = .ok (.invokevirtual 118, 3) := by decide +kernel
theorem dX7_firstShort_38 : decode cX7_firstShort 38 = .ok (.ifCond .le 5, 3) := by decide +kernel
theorem dX7_firstShort_41 : decode cX7_firstShort 41 = .ok (.iload_n 2, 1) := by decide +kernel
theorem dX7_firstShort_42 : decode cX7_firstShort 42 = .ok (.ireturn, 1) := by decide +kernel
theorem dX7_firstShort_43 : decode cX7_firstShort 43 = .ok (.iinc 2 1, 3) := by decide +kernel
theorem dX7_firstShort_46 : decode cX7_firstShort 46 = .ok (.goto (-25), 3) := by decide +kernel
theorem dX7_firstShort_49 : decode cX7_firstShort 49 = .ok (.bipush (-5), 2) := by decide +kernel
theorem dX7_firstShort_51 : decode cX7_firstShort 51 = .ok (.ireturn, 1) := by decide +kernel
set_option maxRecDepth 20000 in
theorem ggX7_load_X7_isPerson : GoodIn wsX7_load wsX7_isPerson := goodIn_r _ [7, 8, 9, 6, 10] (by decide +kernel) (by decide +kernel)
set_option maxRecDepth 20000 in
theorem gX7_load_X7_isPerson : GoodIn wsX7_load (va_wsS RX7 93 yX7_isPerson wsX7_isPerson) := goodIn_app (goodIn_of _ (by decide +kernel)) ggX7_load_X7_isPerson
set_option maxRecDepth 20000 in
theorem ggX7_load_X7_in : GoodIn wsX7_load wsX7_in := goodIn_r _ [10] (by decide +kernel) (by decide +kernel)
set_option maxRecDepth 20000 in
theorem gX7_load_X7_in : GoodIn wsX7_load (va_wsS RX7 54 yX7_in wsX7_in) := goodIn_app (goodIn_of _ (by decide +kernel)) ggX7_load_X7_in
set_option maxRecDepth 20000 in
theorem ggX7_load_X7_plans : GoodIn wsX7_load wsX7_plans := goodIn_r _ [14, 3, 15, 16, 2, 17, 18, 19, 6, 20, 21, 22, 23, 24, 25, 26, 27, 28, 29, 30, 31, 32, 33, 34, 35, 36, 37, 38, 39, 40, 41, 42, 43, 44, 45, 46, 47, 48, 49, 50, 51, 52, 53, 54, 55, 56, 57, 58, 59, 60, 61, 62, 63, 64, 65, 66, 67, 68, 69] (by decide +kernel) (by decide +kernel)
set_option maxRecDepth 20000 in
theorem gX7_load_X7_plans : GoodIn wsX7_load (wsV RX7 114 RX7 yX7_plans wsX7_plans) := goodIn_app (goodIn_of _ (by decide +kernel)) ggX7_load_X7_plans
theorem dX7_load_0 : decode cX7_load 0 = .ok (.aload_n 0, 1) := by decide +kernel
theorem dX7_load_1 : decode cX7_load 1 = .ok (.iconst 0, 1) := by decide +kernel
theorem dX7_load_2 : decode cX7_load 2 = .ok (.putfield 43, 3) := by decide +kernel
theorem dX7_load_5 : decode cX7_load 5 = .ok (.iload_n 1, 1) := by decide +kernel
theorem dX7_load_6 : decode cX7_load 6 = .ok (.invokestatic 93, 3) := by decide +kernel
theorem dX7_load_9 : decode cX7_load 9 = .ok (.ifCond .ne 5, 3) := by decide +kernel
theorem dX7_load_12 : decode cX7_load 12 = .ok (.iconst (-1), 1) := by decide +kernel
theorem dX7_load_13 : decode cX7_load 13 = .ok (.ireturn, 1) := by decide +kernel
theorem dX7_load_14 : decode cX7_load 14 = .ok (.iload_n 2, 1) := by decide +kernel
theorem dX7_load_15 : decode cX7_load 15 = .ok (.iconst 1, 1) := by decide +kernel
theorem dX7_load_16 : decode cX7_load 16 = .ok (.bipush 99, 2) := by decide +kernel
theorem dX7_load_18 : decode cX7_load 18 = .ok (.invokestatic 54, 3) := by decide +kernel
theorem dX7_load_21 : decode cX7_load 21 = .ok (.ifCond .ne 6, 3) := by decide +kernel
theorem dX7_load_24 : decode cX7_load 24 = .ok (.bipush (-2), 2) := by decide +kernel
theorem dX7_load_26 : decode cX7_load 26 = .ok (.ireturn, 1) := by decide +kernel
theorem dX7_load_27 : decode cX7_load 27 = .ok (.iconst 0, 1) := by decide +kernel
theorem dX7_load_28 : decode cX7_load 28 = .ok (.istore_n 3, 1) := by decide +kernel
theorem dX7_load_29 : decode cX7_load 29 = .ok (.aload_n 0, 1) := by decide +kernel
theorem dX7_load_30 : decode cX7_load 30 = .ok (.getfield 7, 3) := by decide +kernel
theorem dX7_load_33 : decode cX7_load 33 = .ok (.iconst 3, 1) := by decide +kernel
theorem dX7_load_34 : decode cX7_load 34 = .ok (.iaload, 1) := by decide +kernel
theorem dX7_load_35 : decode cX7_load 35 = .ok (.istore 4, 2) := by decide +kernel
theorem dX7_load_37 : decode cX7_load 37 = .ok (.iload 4, 2) := by decide +kernel
theorem dX7_load_39 : decode cX7_load 39 = .ok (.aload_n 0, 1) := by decide +kernel
theorem dX7_load_40 : decode cX7_load 40 = .ok (.getfield 7, 3) := by decide +kernel
theorem dX7_load_43 : decode cX7_load 43 = .ok (.iconst 3, 1) := by decide +kernel
theorem dX7_load_44 : decode cX7_load 44 = .ok (.iaload, 1) := by decide +kernel
theorem dX7_load_45 : decode cX7_load 45 = .ok (.iload_n 2, 1) := by decide +kernel
theorem dX7_load_46 : decode cX7_load 46 = .ok (.iadd, 1) := by decide +kernel
theorem dX7_load_47 : decode cX7_load 47 = .ok (.if_icmp .ge 42, 3) := by decide +kernel
theorem dX7_load_50 : decode cX7_load 50 = .ok (.iload 4, 2) := by decide +kernel
theorem dX7_load_52 : decode cX7_load 52 = .ok (.sipush 399, 3) := by decide +kernel
theorem dX7_load_55 : decode cX7_load 55 = .ok (.if_icmp .gt 34, 3) := by decide +kernel
theorem dX7_load_58 : decode cX7_load 58 = .ok (.aload_n 0, 1) := by decide +kernel
theorem dX7_load_59 : decode cX7_load 59 = .ok (.iload 4, 2) := by decide +kernel
theorem dX7_load_61 : decode cX7_load 61 = .ok (.invokevirtual 114, 3) := by decide +kernel
theorem dX7_load_64 : decode cX7_load 64 = .ok (.iload_n 3, 1) := by decide +kernel
theorem dX7_load_65 : decode cX7_load 65 = .ok (.aload_n 0, 1) := by decide +kernel
theorem dX7_load_66 : decode cX7_load 66 = .ok (.getfield 25, 3) := by decide +kernel
theorem dX7_load_69 : decode cX7_load 69 = .ok (.iload_n 1, 1) := by decide +kernel
theorem dX7_load_70 : decode cX7_load 70 = .ok (.iaload, 1) := by decide +kernel
theorem dX7_load_71 : decode cX7_load 71 = .ok (.bipush (-5), 2) := by decide +kernel
theorem dX7_load_73 : decode cX7_load 73 = .ok (.if_icmp .eq 7, 3) := by decide +kernel
theorem dX7_load_76 : decode cX7_load 76 = .ok (.iconst 1, 1) := by decide +kernel
theorem dX7_load_77 : decode cX7_load 77 = .ok (.goto 4, 3) := by decide +kernel
theorem dX7_load_80 : decode cX7_load 80 = .ok (.iconst 0, 1) := by decide +kernel
theorem dX7_load_81 : decode cX7_load 81 = .ok (.iadd, 1) := by decide +kernel
theorem dX7_load_82 : decode cX7_load 82 = .ok (.istore_n 3, 1) := by decide +kernel
theorem dX7_load_83 : decode cX7_load 83 = .ok (.iinc 4 1, 3) := by decide +kernel
theorem dX7_load_86 : decode cX7_load 86 = .ok (.goto (-49), 3) := by decide +kernel
theorem dX7_load_89 : decode cX7_load 89 = .ok (.iload_n 3, 1) := by decide +kernel
theorem dX7_load_90 : decode cX7_load 90 = .ok (.ireturn, 1) := by decide +kernel
set_option maxRecDepth 20000 in
theorem ggX7_ifLeft_X7_refusesDays : GoodIn wsX7_ifLeft wsX7_refusesDays := goodIn_r _ [6, 7, 8, 5, 9, 10, 11, 12, 13, 14, 15, 16, 17, 18, 19, 20, 21, 22, 23, 24, 78, 79, 80, 81, 82, 83, 84, 85, 86, 87, 88, 89, 90, 91, 92, 93, 94, 95, 96, 97] (by decide +kernel) (by decide +kernel)
set_option maxRecDepth 20000 in
theorem gX7_ifLeft_X7_refusesDays : GoodIn wsX7_ifLeft (wsV RX7 130 RX7 yX7_refusesDays wsX7_refusesDays) := goodIn_app (goodIn_of _ (by decide +kernel)) ggX7_ifLeft_X7_refusesDays
set_option maxRecDepth 20000 in
theorem ggX7_ifLeft_X7_shortByMore : GoodIn wsX7_ifLeft wsX7_shortByMore := goodIn_r _ [28, 29, 20, 30, 31, 32, 5, 33, 34, 35, 36, 37, 38, 39, 40, 41, 42, 43, 44, 45, 46, 47, 48, 49, 50, 51, 52, 53, 54, 55, 56, 21, 22, 23, 24, 57, 58, 59, 60, 61, 62, 63, 64, 65, 66, 67, 68, 69, 70, 71, 72, 73, 74, 75, 76, 77, 78, 79, 80, 81, 82, 83, 84, 85, 86, 87, 88, 89, 90, 91, 92, 93, 94, 95, 96, 97] (by decide +kernel) (by decide +kernel)
set_option maxRecDepth 20000 in
theorem gX7_ifLeft_X7_shortByMore : GoodIn wsX7_ifLeft (wsV RX7 134 RX7 yX7_shortByMore wsX7_shortByMore) := goodIn_app (goodIn_of _ (by decide +kernel)) ggX7_ifLeft_X7_shortByMore
theorem dX7_ifLeft_0 : decode cX7_ifLeft 0 = .ok (.aload_n 0, 1) := by decide +kernel
theorem dX7_ifLeft_1 : decode cX7_ifLeft 1 = .ok (.iconst 0, 1) := by decide +kernel
theorem dX7_ifLeft_2 : decode cX7_ifLeft 2 = .ok (.putfield 43, 3) := by decide +kernel
theorem dX7_ifLeft_5 : decode cX7_ifLeft 5 = .ok (.aload_n 0, 1) := by decide +kernel
theorem dX7_ifLeft_6 : decode cX7_ifLeft 6 = .ok (.iload_n 1, 1) := by decide +kernel
theorem dX7_ifLeft_7 : decode cX7_ifLeft 7 = .ok (.iload_n 2, 1) := by decide +kernel
theorem dX7_ifLeft_8 : decode cX7_ifLeft 8 = .ok (.iload_n 3, 1) := by decide +kernel
theorem dX7_ifLeft_9 : decode cX7_ifLeft 9 = .ok (.invokevirtual 130, 3) := by decide +kernel
theorem dX7_ifLeft_12 : decode cX7_ifLeft 12 = .ok (.istore 4, 2) := by decide +kernel
theorem dX7_ifLeft_14 : decode cX7_ifLeft 14 = .ok (.iload 4, 2) := by decide +kernel
theorem dX7_ifLeft_16 : decode cX7_ifLeft 16 = .ok (.ifCond .eq 8, 3) := by decide +kernel
theorem dX7_ifLeft_19 : decode cX7_ifLeft 19 = .ok (.iload 4, 2) := by decide +kernel
theorem dX7_ifLeft_21 : decode cX7_ifLeft 21 = .ok (.goto 10, 3) := by decide +kernel
theorem dX7_ifLeft_24 : decode cX7_ifLeft 24 = .ok (.aload_n 0, 1) := by decide +kernel
theorem dX7_ifLeft_25 : decode cX7_ifLeft 25 = .ok (.iload_n 1, 1) := by decide +kernel
theorem dX7_ifLeft_26 : decode cX7_ifLeft 26 = .ok (.iload_n 2, 1) := by decide +kernel
theorem dX7_ifLeft_27 : decode cX7_ifLeft 27 = .ok (.iload_n 3, 1) := by decide +kernel
theorem dX7_ifLeft_28 : decode cX7_ifLeft 28 = .ok (.invokevirtual 134, 3) := by decide +kernel
theorem dX7_ifLeft_31 : decode cX7_ifLeft 31 = .ok (.ireturn, 1) := by decide +kernel
theorem dX7_ones_0 : decode cX7_ones 0 = .ok (.iconst 0, 1) := by decide +kernel
theorem dX7_ones_1 : decode cX7_ones 1 = .ok (.istore_n 1, 1) := by decide +kernel
theorem dX7_ones_2 : decode cX7_ones 2 = .ok (.iconst 0, 1) := by decide +kernel
theorem dX7_ones_3 : decode cX7_ones 3 = .ok (.istore_n 2, 1) := by decide +kernel
theorem dX7_ones_4 : decode cX7_ones 4 = .ok (.iload_n 2, 1) := by decide +kernel
theorem dX7_ones_5 : decode cX7_ones 5 = .ok (.bipush 10, 2) := by decide +kernel
theorem dX7_ones_7 : decode cX7_ones 7 = .ok (.if_icmp .ge 17, 3) := by decide +kernel
theorem dX7_ones_10 : decode cX7_ones 10 = .ok (.iload_n 1, 1) := by decide +kernel
theorem dX7_ones_11 : decode cX7_ones 11 = .ok (.iload_n 0, 1) := by decide +kernel
theorem dX7_ones_12 : decode cX7_ones 12 = .ok (.iload_n 2, 1) := by decide +kernel
theorem dX7_ones_13 : decode cX7_ones 13 = .ok (.ishr, 1) := by decide +kernel
theorem dX7_ones_14 : decode cX7_ones 14 = .ok (.iconst 1, 1) := by decide +kernel
theorem dX7_ones_15 : decode cX7_ones 15 = .ok (.iand, 1) := by decide +kernel
theorem dX7_ones_16 : decode cX7_ones 16 = .ok (.iadd, 1) := by decide +kernel
theorem dX7_ones_17 : decode cX7_ones 17 = .ok (.istore_n 1, 1) := by decide +kernel
theorem dX7_ones_18 : decode cX7_ones 18 = .ok (.iinc 2 1, 3) := by decide +kernel
theorem dX7_ones_21 : decode cX7_ones 21 = .ok (.goto (-17), 3) := by decide +kernel
theorem dX7_ones_24 : decode cX7_ones 24 = .ok (.iload_n 1, 1) := by decide +kernel
theorem dX7_ones_25 : decode cX7_ones 25 = .ok (.ireturn, 1) := by decide +kernel
set_option maxRecDepth 20000 in
theorem ggX7_bestDay_X7_in : GoodIn wsX7_bestDay wsX7_in := goodIn_r _ [6] (by decide +kernel) (by decide +kernel)
set_option maxRecDepth 20000 in
theorem gX7_bestDay_X7_in : GoodIn wsX7_bestDay (va_wsS RX7 54 yX7_in wsX7_in) := goodIn_app (goodIn_of _ (by decide +kernel)) ggX7_bestDay_X7_in
set_option maxRecDepth 20000 in
theorem ggX7_bestDay_X7_plans : GoodIn wsX7_bestDay wsX7_plans := goodIn_r _ [10, 11, 12, 13, 2, 14, 15, 16, 5, 17, 18, 19, 20, 21, 22, 23, 24, 25, 26, 27, 28, 29, 30, 31, 32, 33, 34, 35, 36, 37, 38, 39, 40, 41, 42, 43, 44, 45, 46, 58, 59, 60, 61, 62, 63, 64, 65, 66, 67, 68, 69, 70, 71, 72, 73, 74, 75, 76, 77] (by decide +kernel) (by decide +kernel)
set_option maxRecDepth 20000 in
theorem gX7_bestDay_X7_plans : GoodIn wsX7_bestDay (wsV RX7 114 RX7 yX7_plans wsX7_plans) := goodIn_app (goodIn_of _ (by decide +kernel)) ggX7_bestDay_X7_plans
set_option maxRecDepth 20000 in
theorem ggX7_bestDay_X7_dueIn : GoodIn wsX7_bestDay wsX7_dueIn := goodIn_r _ [50, 18, 19, 20, 5, 21, 2, 58, 59, 60, 61, 62, 63, 64, 65, 66, 67, 68, 69, 70, 71, 72, 73, 74, 75, 76, 77] (by decide +kernel) (by decide +kernel)
set_option maxRecDepth 20000 in
theorem gX7_bestDay_X7_dueIn : GoodIn wsX7_bestDay (wsV RX7 213 RX7 yX7_dueIn wsX7_dueIn) := goodIn_app (goodIn_of _ (by decide +kernel)) ggX7_bestDay_X7_dueIn
set_option maxRecDepth 20000 in
theorem ggX7_bestDay_X7_shortBy : GoodIn wsX7_bestDay wsX7_shortBy := goodIn_r _ [54, 12, 18, 19, 20, 5, 21, 2, 58, 59, 60, 61, 62, 63, 64, 65, 66, 67, 68, 69, 70, 71, 72, 73, 74, 75, 76, 77] (by decide +kernel) (by decide +kernel)
set_option maxRecDepth 20000 in
theorem gX7_bestDay_X7_shortBy : GoodIn wsX7_bestDay (wsV RX7 118 RX7 yX7_shortBy wsX7_shortBy) := goodIn_app (goodIn_of _ (by decide +kernel)) ggX7_bestDay_X7_shortBy
set_option maxRecDepth 20000 in
theorem ggX7_bestDay_X7_ones : GoodIn wsX7_bestDay wsX7_ones := goodIn_r _ [57] (by decide +kernel) (by decide +kernel)
set_option maxRecDepth 20000 in
theorem gX7_bestDay_X7_ones : GoodIn wsX7_bestDay (va_wsS RX7 216 yX7_ones wsX7_ones) := goodIn_app (goodIn_of _ (by decide +kernel)) ggX7_bestDay_X7_ones
theorem dX7_bestDay_0 : decode cX7_bestDay 0 = .ok (.aload_n 0, 1) := by decide +kernel
theorem dX7_bestDay_1 : decode cX7_bestDay 1 = .ok (.iconst 0, 1) := by decide +kernel
theorem dX7_bestDay_2 : decode cX7_bestDay 2 = .ok (.putfield 43, 3) := by decide +kernel
theorem dX7_bestDay_5 : decode cX7_bestDay 5 = .ok (.iload_n 1, 1) := by decide +kernel
theorem dX7_bestDay_6 : decode cX7_bestDay 6 = .ok (.iconst 0, 1) := by decide +kernel
theorem dX7_bestDay_7 : decode cX7_bestDay 7 = .ok (.iconst 1, 1) := by decide +kernel
theorem dX7_bestDay_8 : decode cX7_bestDay 8 = .ok (.invokestatic 54, 3) := by decide +kernel
theorem dX7_bestDay_11 : decode cX7_bestDay 11 = .ok (.ifCond .ne 6, 3) := by decide +kernel
theorem dX7_bestDay_14 : decode cX7_bestDay 14 = .ok (.bipush (-2), 2) := by decide +kernel
theorem dX7_bestDay_16 : decode cX7_bestDay 16 = .ok (.ireturn, 1) := by decide +kernel
theorem dX7_bestDay_17 : decode cX7_bestDay 17 = .ok (.bipush (-5), 2) := by decide +kernel
theorem dX7_bestDay_19 : decode cX7_bestDay 19 = .ok (.istore_n 2, 1) := by decide +kernel
theorem dX7_bestDay_20 : decode cX7_bestDay 20 = .ok (.iconst 0, 1) := by decide +kernel
theorem dX7_bestDay_21 : decode cX7_bestDay 21 = .ok (.istore_n 3, 1) := by decide +kernel
theorem dX7_bestDay_22 : decode cX7_bestDay 22 = .ok (.aload_n 0, 1) := by decide +kernel
theorem dX7_bestDay_23 : decode cX7_bestDay 23 = .ok (.getfield 7, 3) := by decide +kernel
theorem dX7_bestDay_26 : decode cX7_bestDay 26 = .ok (.iconst 3, 1) := by decide +kernel
theorem dX7_bestDay_27 : decode cX7_bestDay 27 = .ok (.iaload, 1) := by decide +kernel
theorem dX7_bestDay_28 : decode cX7_bestDay 28 = .ok (.istore 4, 2) := by decide +kernel
theorem dX7_bestDay_30 : decode cX7_bestDay 30 = .ok (.iload 4, 2) := by decide +kernel
theorem dX7_bestDay_32 : decode cX7_bestDay 32 = .ok (.sipush 399, 3) := by decide +kernel
theorem dX7_bestDay_35 : decode cX7_bestDay 35 = .ok (.if_icmp .gt 109, 3) := by decide +kernel
theorem dX7_bestDay_38 : decode cX7_bestDay 38 = .ok (.aload_n 0, 1) := by decide +kernel
theorem dX7_bestDay_39 : decode cX7_bestDay 39 = .ok (.iload 4, 2) := by decide +kernel
theorem dX7_bestDay_41 : decode cX7_bestDay 41 = .ok (.invokevirtual 114, 3) := by decide +kernel
theorem dX7_bestDay_44 : decode cX7_bestDay 44 = .ok (.aload_n 0, 1) := by decide +kernel
theorem dX7_bestDay_45 : decode cX7_bestDay 45 = .ok (.iload 4, 2) := by decide +kernel
theorem dX7_bestDay_47 : decode cX7_bestDay 47 = .ok (.bipush 100, 2) := by decide +kernel
theorem dX7_bestDay_49 : decode cX7_bestDay 49 = .ok (.idiv, 1) := by decide +kernel
theorem dX7_bestDay_50 : decode cX7_bestDay 50 = .ok (.invokevirtual 213, 3) := by decide +kernel
theorem dX7_bestDay_53 : decode cX7_bestDay 53 = .ok (.istore 5, 2) := by decide +kernel
theorem dX7_bestDay_55 : decode cX7_bestDay 55 = .ok (.iconst 0, 1) := by decide +kernel
theorem dX7_bestDay_56 : decode cX7_bestDay 56 = .ok (.istore 6, 2) := by decide +kernel
theorem dX7_bestDay_58 : decode cX7_bestDay 58 = .ok (.iload 6, 2) := by decide +kernel
theorem dX7_bestDay_60 : decode cX7_bestDay 60 = .ok (.bipush 10, 2) := by decide +kernel
theorem dX7_bestDay_62 : decode cX7_bestDay 62 = .ok (.if_icmp .ge 33, 3) := by decide +kernel
theorem dX7_bestDay_65 : decode cX7_bestDay 65 = .ok (.iload 5, 2) := by decide +kernel
theorem dX7_bestDay_67 : decode cX7_bestDay 67 = .ok (.aload_n 0, 1) := by decide +kernel
theorem dX7_bestDay_68 : decode cX7_bestDay 68 = .ok (.iload 6, 2) := by decide +kernel
theorem dX7_bestDay_70 : decode cX7_bestDay 70 = .ok (.invokevirtual 118, 3) := by decide +kernel
theorem dX7_bestDay_73 : decode cX7_bestDay 73 = .ok (.ifCond .le 12, 3) := by decide +kernel
theorem dX7_bestDay_76 : decode cX7_bestDay 76 = .ok (.iconst 1, 1) := by decide +kernel
theorem dX7_bestDay_77 : decode cX7_bestDay 77 = .ok (.iload 6, 2) := by decide +kernel
theorem dX7_bestDay_79 : decode cX7_bestDay 79 = .ok (.ishl, 1) := by decide +kernel
theorem dX7_bestDay_80 : decode cX7_bestDay 80 = .ok (.iconst (-1), 1) := by decide +kernel
theorem dX7_bestDay_81 : decode cX7_bestDay 81 = .ok (.ixor, 1) := by decide +kernel
theorem dX7_bestDay_82 : decode cX7_bestDay 82 = .ok (.goto 4, 3) := by decide +kernel
theorem dX7_bestDay_85 : decode cX7_bestDay 85 = .ok (.iconst (-1), 1) := by decide +kernel
theorem dX7_bestDay_86 : decode cX7_bestDay 86 = .ok (.iand, 1) := by decide +kernel
theorem dX7_bestDay_87 : decode cX7_bestDay 87 = .ok (.istore 5, 2) := by decide +kernel
theorem dX7_bestDay_89 : decode cX7_bestDay 89 = .ok (.iinc 6 1, 3) := by decide +kernel
theorem dX7_bestDay_92 : decode cX7_bestDay 92 = .ok (.goto (-34), 3) := by decide +kernel
theorem dX7_bestDay_95 : decode cX7_bestDay 95 = .ok (.iload 5, 2) := by decide +kernel
theorem dX7_bestDay_97 : decode cX7_bestDay 97 = .ok (.invokestatic 216, 3) := by decide +kernel
theorem dX7_bestDay_100 : decode cX7_bestDay 100 = .ok (.iload_n 3, 1) := by decide +kernel
theorem dX7_bestDay_101 : decode cX7_bestDay 101 = .ok (.invokestatic 216, 3) := by decide +kernel
theorem dX7_bestDay_104 : decode cX7_bestDay 104 = .ok (.if_icmp .le 7, 3) := by decide +kernel
theorem dX7_bestDay_107 : decode cX7_bestDay 107 = .ok (.iconst 1, 1) := by decide +kernel
theorem dX7_bestDay_108 : decode cX7_bestDay 108 = .ok (.goto 4, 3) := by decide +kernel
theorem dX7_bestDay_111 : decode cX7_bestDay 111 = .ok (.iconst 0, 1) := by decide +kernel
theorem dX7_bestDay_112 : decode cX7_bestDay 112 = .ok (.istore 6, 2) := by decide +kernel
theorem dX7_bestDay_114 : decode cX7_bestDay 114 = .ok (.iload 6, 2) := by decide +kernel
theorem dX7_bestDay_116 : decode cX7_bestDay 116 = .ok (.ifCond .eq 8, 3) := by decide +kernel
theorem dX7_bestDay_119 : decode cX7_bestDay 119 = .ok (.iload 4, 2) := by decide +kernel
theorem dX7_bestDay_121 : decode cX7_bestDay 121 = .ok (.goto 4, 3) := by decide +kernel
theorem dX7_bestDay_124 : decode cX7_bestDay 124 = .ok (.iload_n 2, 1) := by decide +kernel
theorem dX7_bestDay_125 : decode cX7_bestDay 125 = .ok (.istore_n 2, 1) := by decide +kernel
theorem dX7_bestDay_126 : decode cX7_bestDay 126 = .ok (.iload 6, 2) := by decide +kernel
theorem dX7_bestDay_128 : decode cX7_bestDay 128 = .ok (.ifCond .eq 8, 3) := by decide +kernel
theorem dX7_bestDay_131 : decode cX7_bestDay 131 = .ok (.iload 5, 2) := by decide +kernel
theorem dX7_bestDay_133 : decode cX7_bestDay 133 = .ok (.goto 4, 3) := by decide +kernel
theorem dX7_bestDay_136 : decode cX7_bestDay 136 = .ok (.iload_n 3, 1) := by decide +kernel
theorem dX7_bestDay_137 : decode cX7_bestDay 137 = .ok (.istore_n 3, 1) := by decide +kernel
theorem dX7_bestDay_138 : decode cX7_bestDay 138 = .ok (.iinc 4 1, 3) := by decide +kernel
theorem dX7_bestDay_141 : decode cX7_bestDay 141 = .ok (.goto (-111), 3) := by decide +kernel
theorem dX7_bestDay_144 : decode cX7_bestDay 144 = .ok (.iload_n 1, 1) := by decide +kernel
theorem dX7_bestDay_145 : decode cX7_bestDay 145 = .ok (.ifCond .eq 9, 3) := by decide +kernel
theorem dX7_bestDay_148 : decode cX7_bestDay 148 = .ok (.iload_n 2, 1) := by decide +kernel
theorem dX7_bestDay_149 : decode cX7_bestDay 149 = .ok (.bipush (-5), 2) := by decide +kernel
theorem dX7_bestDay_151 : decode cX7_bestDay 151 = .ok (.if_icmp .ne 7, 3) := by decide +kernel
theorem dX7_bestDay_154 : decode cX7_bestDay 154 = .ok (.iload_n 2, 1) := by decide +kernel
theorem dX7_bestDay_155 : decode cX7_bestDay 155 = .ok (.goto 4, 3) := by decide +kernel
theorem dX7_bestDay_158 : decode cX7_bestDay 158 = .ok (.iload_n 3, 1) := by decide +kernel
theorem dX7_bestDay_159 : decode cX7_bestDay 159 = .ok (.ireturn, 1) := by decide +kernel
set_option maxRecDepth 20000 in
theorem ggX7_shortInAll_X7_plans : GoodIn wsX7_shortInAll wsX7_plans := goodIn_r _ [6, 7, 8, 9, 1, 10, 11, 12, 5, 13, 14, 15, 16, 17, 18, 19, 20, 21, 22, 23, 24, 25, 26, 27, 28, 29, 30, 31, 32, 33, 34, 35, 36, 37, 38, 39, 40, 41, 42, 47, 48, 49, 50, 51, 52, 53, 54, 55, 56, 57, 58, 59, 60, 61, 62, 63, 64, 65, 66] (by decide +kernel) (by decide +kernel)
set_option maxRecDepth 20000 in
theorem gX7_shortInAll_X7_plans : GoodIn wsX7_shortInAll (wsV RX7 114 RX7 yX7_plans wsX7_plans) := goodIn_app (goodIn_of _ (by decide +kernel)) ggX7_shortInAll_X7_plans
set_option maxRecDepth 20000 in
theorem ggX7_shortInAll_X7_shortBy : GoodIn wsX7_shortInAll wsX7_shortBy := goodIn_r _ [46, 8, 14, 15, 16, 5, 17, 1, 47, 48, 49, 50, 51, 52, 53, 54, 55, 56, 57, 58, 59, 60, 61, 62, 63, 64, 65, 66] (by decide +kernel) (by decide +kernel)
set_option maxRecDepth 20000 in
theorem gX7_shortInAll_X7_shortBy : GoodIn wsX7_shortInAll (wsV RX7 118 RX7 yX7_shortBy wsX7_shortBy) := goodIn_app (goodIn_of _ (by decide +kernel)) ggX7_shortInAll_X7_shortBy
theorem dX7_shortInAll_0 : decode cX7_shortInAll 0 = .ok (.aload_n 0, 1) := by decide +kernel
theorem dX7_shortInAll_1 : decode cX7_shortInAll 1 = .ok (.aload_n 0, 1) := by decide +kernel
theorem dX7_shortInAll_2 : decode cX7_shortInAll 2 = .ok (.getfield 7, 3) := by decide +kernel
theorem dX7_shortInAll_5 : decode cX7_shortInAll 5 = .ok (.iconst 3, 1) := by decide +kernel
theorem dX7_shortInAll_6 : decode cX7_shortInAll 6 = .ok (.iaload, 1) := by decide +kernel
theorem dX7_shortInAll_7 : decode cX7_shortInAll 7 = .ok (.invokevirtual 114, 3) := by decide +kernel
theorem dX7_shortInAll_10 : decode cX7_shortInAll 10 = .ok (.iconst 0, 1) := by decide +kernel
theorem dX7_shortInAll_11 : decode cX7_shortInAll 11 = .ok (.istore_n 1, 1) := by decide +kernel
theorem dX7_shortInAll_12 : decode cX7_shortInAll 12 = .ok (.iconst 0, 1) := by decide +kernel
theorem dX7_shortInAll_13 : decode cX7_shortInAll 13 = .ok (.istore_n 2, 1) := by decide +kernel
theorem dX7_shortInAll_14 : decode cX7_shortInAll 14 = .ok (.iload_n 2, 1) := by decide +kernel
theorem dX7_shortInAll_15 : decode cX7_shortInAll 15 = .ok (.bipush 10, 2) := by decide +kernel
theorem dX7_shortInAll_17 : decode cX7_shortInAll 17 = .ok (.if_icmp .ge 17, 3) := by decide +kernel
theorem dX7_shortInAll_20 : decode cX7_shortInAll 20 = .ok (.iload_n 1, 1) := by decide +kernel
theorem dX7_shortInAll_21 : decode cX7_shortInAll 21 = .ok (.aload_n 0, 1) := by decide +kernel
theorem dX7_shortInAll_22 : decode cX7_shortInAll 22 = .ok (.iload_n 2, 1) := by decide +kernel
theorem dX7_shortInAll_23 : decode cX7_shortInAll 23 = .ok (.invokevirtual 118, 3) := by decide +kernel
theorem dX7_shortInAll_26 : decode cX7_shortInAll 26 = .ok (.iadd, 1) := by decide +kernel
theorem dX7_shortInAll_27 : decode cX7_shortInAll 27 = .ok (.istore_n 1, 1) := by decide +kernel
theorem dX7_shortInAll_28 : decode cX7_shortInAll 28 = .ok (.iinc 2 1, 3) := by decide +kernel
theorem dX7_shortInAll_31 : decode cX7_shortInAll 31 = .ok (.goto (-17), 3) := by decide +kernel
theorem dX7_shortInAll_34 : decode cX7_shortInAll 34 = .ok (.iload_n 1, 1) := by decide +kernel
theorem dX7_shortInAll_35 : decode cX7_shortInAll 35 = .ok (.ireturn, 1) := by decide +kernel
set_option maxRecDepth 20000 in
theorem ggX7_persons_X7_plans : GoodIn wsX7_persons wsX7_plans := goodIn_r _ [7, 2, 8, 9, 1, 10, 11, 12, 6, 13, 14, 15, 16, 17, 18, 19, 20, 21, 22, 23, 24, 25, 26, 27, 28, 29, 30, 31, 32, 33, 34, 35, 36, 37, 38, 39, 40, 41, 42, 43, 44, 45, 46, 47, 48, 49, 50, 51, 52, 53, 54, 55, 56, 57, 58, 59, 60, 61, 62] (by decide +kernel) (by decide +kernel)
set_option maxRecDepth 20000 in
theorem gX7_persons_X7_plans : GoodIn wsX7_persons (wsV RX7 114 RX7 yX7_plans wsX7_plans) := goodIn_app (goodIn_of _ (by decide +kernel)) ggX7_persons_X7_plans
set_option maxRecDepth 20000 in
theorem ggX7_persons_X7_leaveOn : GoodIn wsX7_persons wsX7_leaveOn := goodIn_r _ [29, 1, 30, 31, 32, 6, 33, 43, 44, 45, 46, 47, 48, 49, 50, 51, 52, 53, 54, 55, 56, 57, 58, 59, 60, 61, 62] (by decide +kernel) (by decide +kernel)
set_option maxRecDepth 20000 in
theorem gX7_persons_X7_leaveOn : GoodIn wsX7_persons (wsV RX7 65 RX7 yX7_leaveOn wsX7_leaveOn) := goodIn_app (goodIn_of _ (by decide +kernel)) ggX7_persons_X7_leaveOn
theorem dX7_persons_0 : decode cX7_persons 0 = .ok (.aload_n 0, 1) := by decide +kernel
theorem dX7_persons_1 : decode cX7_persons 1 = .ok (.aload_n 0, 1) := by decide +kernel
theorem dX7_persons_2 : decode cX7_persons 2 = .ok (.getfield 7, 3) := by decide +kernel
theorem dX7_persons_5 : decode cX7_persons 5 = .ok (.iconst 3, 1) := by decide +kernel
theorem dX7_persons_6 : decode cX7_persons 6 = .ok (.iaload, 1) := by decide +kernel
theorem dX7_persons_7 : decode cX7_persons 7 = .ok (.invokevirtual 114, 3) := by decide +kernel
theorem dX7_persons_10 : decode cX7_persons 10 = .ok (.iconst 0, 1) := by decide +kernel
theorem dX7_persons_11 : decode cX7_persons 11 = .ok (.istore_n 2, 1) := by decide +kernel
theorem dX7_persons_12 : decode cX7_persons 12 = .ok (.iconst 0, 1) := by decide +kernel
theorem dX7_persons_13 : decode cX7_persons 13 = .ok (.istore_n 3, 1) := by decide +kernel
theorem dX7_persons_14 : decode cX7_persons 14 = .ok (.iload_n 3, 1) := by decide +kernel
theorem dX7_persons_15 : decode cX7_persons 15 = .ok (.bipush 16, 2) := by decide +kernel
